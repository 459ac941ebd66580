/** Section 2, an hour: each sentence there that names a boundary case. */
public final class Section2BoundsTest {
    public static void main(String[] args) {
        hourHasWarmthAndRain();
        hourIsOneMoreBeforeAllElse();
        basketsSpoilAboveAnAgeOf24();
        onlyBasketsThatWaitSpoil();
        tanksAreOlderOnlyWithAMix();
        pointsOfAnHour();
        rainAddsTo600AtMost();
        rainNeedsNoDay();
        dryingIsInTimes8To17();
        dryingIsByDepth();
        quarterIfCovered();
        moistureIs80AtLeast();
        onlyBedsWithAMixChange();
        unturnedIsOneMoreInEachHour();
        mouldComesEachTwelfthHour();
        mouldNeedsMoistureAbove250();
        lotsAgeAtATimeOf0();
        onlyLotsInStoreAge();
        Checks.end();
    }

    /** One farm, and a bed of the area 40 on which a degree dries 30 kilos by one in an hour. */
    private static Station small() {
        Station s = new Station();
        s.farm(10);
        s.bed(40);
        return s;
    }

    private static Station withBed(int area, int kilos, int hour) {
        Station s = new Station();
        s.farm(10);
        s.bed(area);
        Checks.passLong(s, hour, 0, 0);
        s.whole(s.bring(0, kilos, 100), 0);
        return s;
    }

    private static void hourHasWarmthAndRain() {
        Checks.sentence("Section 2", "An HOUR has a WARMTH (0 to 40) and RAIN (0 to 20). HOUR is 1 more.");
        Station s = withBed(40, 30, 7);
        Checks.range("a WARMTH", Checks.ARGUMENT, s, 0, 40, (t, warmth) -> t.pass(1, warmth, 0));
        Checks.range("RAIN", Checks.ARGUMENT, s, 0, 20, (t, rain) -> t.pass(1, 20, rain));
        s.pass(1, 0, 0);
        Checks.equal("nothing of the lowest WARMTH", s.ofBed(0, 4), 600);
        s.pass(1, 40, 0);
        Checks.equal("40 of the highest WARMTH", s.ofBed(0, 4), 560);
        s.pass(1, 0, 20);
        Checks.equal("20 of the most RAIN", s.ofBed(0, 4), 580);
        Checks.equal("HOUR after three", s.many(0), 10);
        s.pass(100, 0, 0);
        Checks.equal("HOUR after 100 more", s.many(0), 110);
    }

    private static void hourIsOneMoreBeforeAllElse() {
        Checks.sentence("Section 2", "HOUR is 1 more. Then:");
        Station s = withBed(40, 30, 7);
        s.pass(1, 5, 0);
        Checks.equal("the HOUR from 7 to 8 dries as one with a TIME of 8", s.ofBed(0, 4), 595);
        Station t = small();
        t.pass(23, 0, 0);
        Checks.naturalLot(t, 0, 30, 0);
        t.pass(1, 0, 0);
        Checks.equal("the HOUR from 23 to 24 ages as one with a TIME of 0", t.ofLot(0, 8), 1);
    }

    private static void basketsSpoilAboveAnAgeOf24() {
        Checks.sentence("Section 2", "BASKETS that WAIT: AGE is 1 more; with an AGE above 24 one is SPOILT: what it "
            + "holds is LOST.");
        Station s = small();
        s.bring(0, 51, 0);
        Checks.equal("SPOILT up to an AGE of 23", s.pass(23, 40, 0), 0);
        Checks.equal("SPOILT at an AGE of 24", s.pass(1, 40, 0), 0);
        Checks.equal("it WAITS at an AGE of 24", s.ofBasket(0, 3), 0);
        Checks.equal("its AGE", s.ofBasket(0, 4), 24);
        Checks.equal("what WAITS", s.many(8), 26);
        Checks.equal("LOST", s.many(13), 0);
        Checks.taken("it can be PULPED yet", s, t -> t.pulp(0, 0));
        Checks.taken("it can be dried WHOLE yet", s, t -> t.whole(0, 0));
        Checks.equal("SPOILT at an AGE of 25", s.pass(1, 0, 0), 1);
        Checks.equal("it is SPOILT", s.ofBasket(0, 3), 3);
        Checks.equal("its AGE then", s.ofBasket(0, 4), 25);
        Checks.equal("what WAITS then", s.many(8), 0);
        Checks.equal("LOST then, without FLOATERS", s.many(13), 26);
        Checks.equal("SPOILT once, not again", s.pass(100, 0, 0), 0);
        Checks.equal("LOST once, not again", s.many(13), 26);
    }

    private static void onlyBasketsThatWaitSpoil() {
        Checks.sentence("Section 2", "BASKETS that WAIT: AGE is 1 more;");
        Station s = small();
        for (int i = 0; i < 3; i++) {
            s.bring(0, 40, 100);
        }
        s.pass(24, 0, 0);
        s.pulp(0, 0);
        s.whole(1, 0);
        Checks.equal("only the one that WAITS is SPOILT", s.pass(2, 0, 0), 1);
        int[] ages = {24, 24, 25};
        for (int i = 0; i < 3; i++) {
            Checks.equal("the AGE of BASKET " + i, s.ofBasket(i, 4), ages[i]);
            Checks.equal("what became of BASKET " + i, s.ofBasket(i, 3), i + 1);
        }
        Checks.equal("LOST by PULPING and spoiling", s.many(13), 20 + 40);
        Station all = small();
        for (int i = 0; i < 20; i++) {
            all.bring(0, 200, 100);
        }
        Checks.equal("all 20 are SPOILT in one HOUR", all.pass(25, 0, 0), 20);
        Checks.equal("the most that is LOST so", all.many(13), 4000);
        Station none = small();
        Checks.equal("SPOILT without BASKETS", none.pass(100, 0, 0), 0);
    }

    private static void tanksAreOlderOnlyWithAMix() {
        Checks.sentence("Section 2", "TANKS with a MIX: AGE is 1 more");
        Station s = small();
        s.pass(5, 40, 0);
        s.pulp(s.bring(0, 2, 100), 1);
        Checks.equal("the AGE of a TANK in which something comes", s.ofTank(1, 2), 0);
        Checks.equal("its POINTS", s.ofTank(1, 3), 0);
        s.pass(1, 40, 0);
        Checks.equal("its AGE an HOUR later", s.ofTank(1, 2), 1);
        Checks.equal("the AGE of an empty TANK", s.ofTank(0, 2) + s.ofTank(2, 2), 0);
        Checks.equal("the POINTS of an empty TANK", s.ofTank(0, 3) + s.ofTank(2, 3), 0);
        s.pulp(s.bring(0, 2, 100), 0);
        Checks.equal("an AGE that began with its MIX", s.ofTank(0, 2), 0);
        Checks.equal("POINTS that began with its MIX", s.ofTank(0, 3), 0);
    }

    private static void pointsOfAnHour() {
        Checks.sentence("Section 2", "POINTS are WARMTH / 4, and KILOS / 100, more.");
        int[][] warmthKilosAndPoints = {{0, 1, 0}, {3, 99, 0}, {4, 99, 1}, {7, 1, 1}, {8, 1, 2}, {39, 1, 9}, {40, 1, 10},
            {0, 99, 0}, {0, 100, 1}, {3, 199, 1}, {0, 200, 2}, {2, 250, 2}, {0, 299, 2}, {0, 300, 3}, {39, 299, 11},
            {40, 300, 13}};
        for (int[] row : warmthKilosAndPoints) {
            Station s = new Station();
            s.farm(10);
            for (int left = row[1]; left > 0; left -= 100) {
                s.pulp(s.bring(0, 2 * Math.min(100, left), 100), 2);
            }
            s.pass(1, row[0], 20);
            Checks.equal("POINTS of " + row[1] + " KILOS with " + row[0], s.ofTank(2, 3), row[2]);
            s.pass(3, row[0], 0);
            Checks.equal("POINTS of four HOURS", s.ofTank(2, 3), 4 * row[2]);
        }
    }

    private static void rainAddsTo600AtMost() {
        Checks.sentence("Section 2", "with RAIN, and not COVERED, MOISTURE is RAIN more (600 at most).");
        int[][] beforeRainAndAfter = {{600, 1, 600}, {599, 1, 600}, {599, 2, 600}, {598, 1, 599}, {580, 20, 600},
            {581, 20, 600}, {579, 20, 599}, {561, 1, 562}};
        for (int[] row : beforeRainAndAfter) {
            Station s = withBed(40, 30, 7);
            s.pass(1, 600 - row[0], 0);
            Checks.equal("MOISTURE before", s.ofBed(0, 4), row[0]);
            s.pass(1, 40, row[1]);
            Checks.equal("MOISTURE of " + row[0] + " with RAIN " + row[1], s.ofBed(0, 4), row[2]);
        }
        Station s = withBed(40, 30, 7);
        s.pass(1, 40, 0);
        s.pass(100, 0, 20);
        Checks.equal("MOISTURE after a hundred HOURS of RAIN", s.ofBed(0, 4), 600);
    }

    private static void rainNeedsNoDay() {
        Checks.sentence("Section 2", "with RAIN, and not COVERED, MOISTURE is RAIN more");
        for (int hour = 17; hour <= 33; hour++) {
            Station s = withBed(40, 30, 7);
            s.pass(10, 40, 0);
            Checks.equal("MOISTURE at the end of the day", s.ofBed(0, 4), 200);
            if (hour > 17) {
                s.pass(hour - 17, 0, 0);
            }
            s.pass(1, 40, 1);
            Checks.equal("MOISTURE with RAIN in HOUR " + (hour + 1), s.ofBed(0, 4), 201);
            s.cover(0, true);
            s.pass(1, 0, 20);
            Checks.equal("MOISTURE with RAIN, but COVERED", s.ofBed(0, 4), 201);
            s.cover(0, false);
            s.pass(1, 0, 0);
            Checks.equal("MOISTURE without RAIN", s.ofBed(0, 4), 201);
        }
    }

    private static void dryingIsInTimes8To17() {
        Checks.sentence("Section 2", "Otherwise, in a TIME of 8 to 17, it is less by");
        Station s = withBed(40, 30, 0);
        int[][] hourAndMoisture = {{1, 600}, {7, 600}, {8, 598}, {9, 596}, {16, 582}, {17, 580}, {18, 580}, {23, 580},
            {24, 580}, {31, 580}, {32, 578}, {41, 560}, {42, 560}};
        for (int[] row : hourAndMoisture) {
            s.pass(row[0] - s.many(0), 2, 0);
            Checks.equal("MOISTURE at HOUR " + row[0], s.ofBed(0, 4), row[1]);
        }
    }

    private static void dryingIsByDepth() {
        Checks.sentence("Section 2", "it is less by WARMTH times 10, divided by (10 and KILOS / AREA);");
        int[][] kilosAreaWarmthAndLess = {{1, 40, 0, 0}, {1, 40, 1, 1}, {39, 40, 40, 40}, {40, 40, 40, 36}, {79, 40, 40, 36},
            {80, 40, 40, 33}, {119, 40, 40, 33}, {120, 40, 40, 30}, {4, 5, 40, 40}, {5, 5, 40, 36}, {59, 5, 40, 19},
            {60, 5, 40, 18}, {192, 16, 40, 18}, {191, 16, 40, 19}, {40, 40, 1, 0}, {40, 40, 2, 1}, {40, 40, 10, 9},
            {40, 40, 11, 10}, {60, 5, 2, 0}, {60, 5, 3, 1}};
        for (int[] row : kilosAreaWarmthAndLess) {
            Station s = withBed(row[1], row[0], 7);
            s.pass(1, row[2], 0);
            Checks.equal("less of " + row[0] + " KILOS on " + row[1] + " with " + row[2], 600 - s.ofBed(0, 4), row[3]);
        }
    }

    private static void quarterIfCovered() {
        Checks.sentence("Section 2", "a quarter of that, if it is COVERED;");
        int[][] kilosWarmthAndLess = {{30, 0, 0}, {30, 3, 0}, {30, 4, 1}, {30, 7, 1}, {30, 8, 2}, {30, 39, 9}, {30, 40, 10},
            {40, 40, 9}, {80, 40, 8}, {120, 40, 7}, {40, 4, 0}, {40, 5, 1}};
        for (int[] row : kilosWarmthAndLess) {
            for (int rain = 0; rain <= 20; rain += 20) {
                Station s = withBed(40, row[0], 7);
                s.cover(0, true);
                s.pass(1, row[1], rain);
                String what = row[0] + " KILOS, COVERED, with " + row[1] + " and RAIN " + rain;
                Checks.equal("less of " + what, 600 - s.ofBed(0, 4), row[2]);
                s.pass(9, 0, rain);
                s.pass(14, 40, rain);
                Checks.equal("less in the night of " + what, 600 - s.ofBed(0, 4), row[2]);
            }
        }
    }

    private static void moistureIs80AtLeast() {
        Checks.sentence("Section 2", "80 at least.");
        int[][] beforeWarmthAndAfter = {{81, 1, 80}, {81, 2, 80}, {81, 40, 80}, {120, 40, 80}, {119, 40, 80}, {121, 40, 81},
            {80, 0, 80}, {80, 1, 80}, {80, 40, 80}};
        for (int[] row : beforeWarmthAndAfter) {
            Station s = small();
            Batch.natural().moisture(row[0]).lay(s, 0);
            s.turn(0);
            int time = s.many(0) % 24;
            s.pass((31 - time) % 24 + 1, 0, 0);
            s.pass(1, row[1], 0);
            Checks.equal("MOISTURE of " + row[0] + " with " + row[1], s.ofBed(0, 4), row[2]);
        }
        Station s = small();
        Batch.natural().moisture(80).lay(s, 0);
        s.cover(0, true);
        s.pass(24, 40, 0);
        Checks.equal("MOISTURE of 80, COVERED", s.ofBed(0, 4), 80);
        s.cover(0, false);
        s.pass(1, 40, 1);
        Checks.equal("MOISTURE of 80 with RAIN", s.ofBed(0, 4), 81);
    }

    private static void onlyBedsWithAMixChange() {
        Checks.sentence("Section 2", "BEDS with a MIX:");
        Station s = small();
        s.pass(100, 40, 0);
        s.pass(100, 0, 20);
        for (int what = 1; what <= 7; what++) {
            Checks.equal("ofBed(0, " + what + ") of an empty BED", s.ofBed(0, what), 0);
        }
        s.whole(s.bring(0, 30, 100), 0);
        int[] due = {40, 0, 30, 2, 600, 0, 0, 0};
        for (int what = 0; what <= 7; what++) {
            Checks.equal("ofBed(0, " + what + ") as it begins", s.ofBed(0, what), due[what]);
        }
    }

    private static void unturnedIsOneMoreInEachHour() {
        Checks.sentence("Section 2", "Then, in each HOUR, UNTURNED is 1 more;");
        Station s = withBed(40, 30, 0);
        s.pass(1, 0, 0);
        Checks.equal("UNTURNED after an HOUR of the night", s.ofBed(0, 5), 1);
        s.pass(1, 0, 20);
        Checks.equal("UNTURNED after one with RAIN", s.ofBed(0, 5), 2);
        s.pass(6, 40, 0);
        Checks.equal("UNTURNED at TIME 8", s.ofBed(0, 5), 8);
        s.cover(0, true);
        s.pass(1, 40, 20);
        Checks.equal("UNTURNED after one as COVERED", s.ofBed(0, 5), 9);
        Checks.passLong(s, 19991, 40, 0);
        Checks.equal("the greatest UNTURNED", s.ofBed(0, 5), 20000);
    }

    private static void mouldComesEachTwelfthHour() {
        Checks.sentence("Section 2", "if that can be divided by 12 then, and MOISTURE is above 250, MOULD is 1 more.");
        Station s = withBed(40, 30, 0);
        int[][] hourAndMould = {{11, 0}, {12, 1}, {13, 1}, {23, 1}, {24, 2}, {25, 2}, {35, 2}, {36, 3}, {47, 3}, {48, 4}};
        for (int[] row : hourAndMould) {
            s.pass(row[0] - s.many(0), 0, 0);
            Checks.equal("MOULD in HOUR " + row[0], s.ofBed(0, 6), row[1]);
        }
        Checks.passLong(s, 20000 - 48, 0, 0);
        Checks.equal("the greatest MOULD", s.ofBed(0, 6), 1666);
        Station turned = withBed(40, 30, 0);
        for (int i = 0; i < 4; i++) {
            turned.pass(11, 0, 0);
            turned.turn(0);
        }
        Checks.equal("MOULD, TURNED in each 11th HOUR", turned.ofBed(0, 6), 0);
        turned.pass(12, 0, 0);
        turned.turn(0);
        turned.pass(12, 0, 0);
        Checks.equal("MOULD, TURNED in the 12th HOUR", turned.ofBed(0, 6), 2);
    }

    /** A BED of the MOISTURE told at TIME 17, which is UNTURNED for ten HOURS. */
    private static Station at17(int moisture) {
        Station s = withBed(40, 30, 7);
        int less = (600 - moisture) / 10;
        int hoursOfOneMore = (600 - moisture) % 10;
        Checks.passLong(s, hoursOfOneMore, less + 1, 0);
        s.pass(10 - hoursOfOneMore, less, 0);
        Checks.equal("MOISTURE at TIME 17", s.ofBed(0, 4), moisture);
        Checks.equal("UNTURNED at TIME 17", s.ofBed(0, 5), 10);
        return s;
    }

    private static void mouldNeedsMoistureAbove250() {
        Checks.sentence("Section 2", "and MOISTURE is above 250, MOULD is 1 more.");
        int[][] moistureRainAndMould = {{249, 0, 0}, {250, 0, 0}, {251, 0, 1}, {252, 0, 1}, {249, 1, 0}, {250, 1, 1},
            {231, 20, 1}, {230, 20, 0}};
        for (int[] row : moistureRainAndMould) {
            Station s = at17(row[0]);
            s.pass(1, 0, 0);
            // RAIN of the twelfth HOUR comes ahead of its MOULD.
            s.pass(1, 0, row[1]);
            Checks.equal("MOULD of " + row[0] + " with RAIN " + row[1], s.ofBed(0, 6), row[2]);
        }
        // Laid at TIME 5, a BED is UNTURNED for twelve HOURS at 17, the last one that dries.
        for (int warmth = 9; warmth <= 11; warmth++) {
            Station s = withBed(40, 30, 5);
            s.pass(2, 0, 0);
            s.pass(8, 40, 0);
            s.pass(1, 20, 0);
            Checks.equal("UNTURNED in the HOUR before", s.ofBed(0, 5), 11);
            s.pass(1, warmth, 0);
            Checks.equal("MOULD of 260 less " + warmth, s.ofBed(0, 6), warmth < 10 ? 1 : 0);
        }
    }

    private static void lotsAgeAtATimeOf0() {
        Checks.sentence("Section 2", "With a TIME of 0: the AGE of each LOT that is in store is 1 more.");
        Station s = small();
        Checks.naturalLot(s, 0, 30, 0);
        int[][] hourAndAge = {{23, 0}, {24, 1}, {25, 1}, {47, 1}, {48, 2}, {49, 2}, {71, 2}, {72, 3}};
        for (int[] row : hourAndAge) {
            s.pass(row[0] - s.many(0), 0, 0);
            Checks.equal("AGE in HOUR " + row[0], s.ofLot(0, 8), row[1]);
        }
        Checks.naturalLot(s, 0, 30, 0);
        Checks.equal("AGE of one that is stored at a TIME of 0", s.ofLot(1, 8), 0);
        s.pass(24, 0, 0);
        Checks.equal("its AGE a day later", s.ofLot(1, 8), 1);
        Checks.equal("AGE of the older one", s.ofLot(0, 8), 4);
        Checks.passLong(s, 20000 - 96, 0, 0);
        Checks.equal("the greatest AGE", s.ofLot(0, 8), 833);
    }

    private static void onlyLotsInStoreAge() {
        Checks.sentence("Section 2", "the AGE of each LOT that is in store");
        Station s = small();
        for (int i = 0; i < 4; i++) {
            Checks.naturalLot(s, 0, 30, 0);
        }
        s.pass(24, 0, 0);
        s.blend(0, 1);
        s.cup(2, 0);
        s.sell(2, 1, false);
        s.pass(24, 0, 0);
        int[] ages = {2, 1, 1, 2};
        for (int i = 0; i < 4; i++) {
            Checks.equal("AGE of LOT " + i, s.ofLot(i, 8), ages[i]);
        }
    }
}
