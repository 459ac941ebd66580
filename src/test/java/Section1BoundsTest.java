/** Section 1, farms and baskets: each sentence there that names a boundary case. */
public final class Section1BoundsTest {
    public static void main(String[] args) {
        hourIs0AtFirstAnd20000AtMost();
        dayIsTheHourBy24();
        timeIsTheHourModulo24();
        moneyIs0AtFirstAndCanBeBelow();
        farmsAreSixAtMost();
        farmsHaveHeightLabelAndCoins();
        labelIsTheLastDay();
        basketsAreTwentyEver();
        kilosAndRipeHaveBounds();
        floatersAreRoundedDown();
        theRestIsPaidAtOnce();
        certifiedIfTheLabelIsNoSmaller();
        certifiedForGood();
        itWaitsWithAnAgeOf0();
        ripeOfAMixIsRoundedDown();
        Checks.end();
    }

    private static Station stationOf(int... heights) {
        Station s = new Station();
        for (int height : heights) {
            s.farm(height);
        }
        return s;
    }

    private static void hourIs0AtFirstAnd20000AtMost() {
        Checks.sentence("Section 1", "HOUR is 0 at first (20000 at most)");
        Station s = new Station();
        Checks.equal("the first HOUR", s.many(0), 0);
        Checks.passLong(s, 19999, 0, 0);
        Checks.equal("the last but one", s.many(0), 19999);
        Checks.refused("two HOURS from 19999", Checks.STATE, s, t -> t.pass(2, 0, 0));
        Checks.equal("one from 19999", s.pass(1, 0, 0), 0);
        Checks.equal("the last", s.many(0), 20000);
        Checks.refused("one from 20000", Checks.STATE, s, t -> t.pass(1, 0, 0));
    }

    /** Whether a basket that is brought in this HOUR is CERTIFIED by a LABEL up to the DAY. */
    private static int certifiedIn(int hour, int day) {
        Station s = stationOf(10);
        s.label(0, day);
        Checks.passLong(s, hour, 0, 0);
        return s.ofBasket(s.bring(0, 10, 100), 5);
    }

    private static void dayIsTheHourBy24() {
        Checks.sentence("Section 1", "the DAY of one is it / 24");
        int[][] lastHourAndDay = {{23, 0}, {47, 1}, {71, 2}, {239, 9}, {19991, 832}};
        for (int[] row : lastHourAndDay) {
            Checks.equal("the DAY of HOUR " + row[0], certifiedIn(row[0], row[1]), 1);
            Checks.equal("the next DAY, from HOUR " + (row[0] + 1), certifiedIn(row[0] + 1, row[1]), 0);
        }
        Checks.equal("the DAY of HOUR 0 is no smaller than 0", certifiedIn(0, -1), 0);
        Checks.equal("the DAY of HOUR 0 is no greater than 0", certifiedIn(0, 0), 1);
        Checks.equal("the DAY of HOUR 20000 is 833", certifiedIn(20000, 833), 1);
    }

    private static void timeIsTheHourModulo24() {
        Checks.sentence("Section 1", "its TIME it modulo 24");
        Station s = stationOf(10);
        s.bed(40);
        Checks.naturalLot(s, 0, 30, 0);
        s.whole(s.bring(0, 30, 100), 0);
        int age = 0;
        int moisture = 600;
        for (int hour = 1; hour <= 73; hour++) {
            s.pass(1, 1, 0);
            // 24, 48 and 72 are TIMES of 0 again; 8 to 17, 32 to 41 and 56 to 65 are the days.
            age += hour == 24 || hour == 48 || hour == 72 ? 1 : 0;
            moisture -= hour >= 8 && hour <= 17 || hour >= 32 && hour <= 41 || hour >= 56 && hour <= 65 ? 1 : 0;
            Checks.equal("AGE of a LOT at HOUR " + hour, s.ofLot(0, 8), age);
            Checks.equal("MOISTURE of a BED at HOUR " + hour, s.ofBed(0, 4), moisture);
        }
    }

    private static void moneyIs0AtFirstAndCanBeBelow() {
        Checks.sentence("Section 1", "MONEY is 0 at first; it can be below 0.");
        Station s = stationOf(10);
        s.bed(40);
        Checks.equal("the first MONEY", s.many(6), 0);
        s.price(1);
        s.bring(0, 1, 100);
        Checks.equal("MONEY just below", s.many(6), -1);
        s.bring(0, 2, 100);
        Checks.naturalLot(s, 0, 3, 0);
        Checks.equal("MONEY further below", s.many(6), -6);
        s.cup(0, 0);
        // One kilo for 9 brings 9, of which the farm gets 3.
        Checks.equal("what is sold", s.sell(0, 9, false), 6);
        Checks.equal("MONEY of 0 again", s.many(6), 0);
        Station t = stationOf(10);
        t.price(50);
        for (int i = 0; i < 20; i++) {
            t.bring(0, 200, 100);
        }
        Checks.equal("the lowest MONEY", t.many(6), -200000);
        Checks.equal("the COINS then", t.ofFarm(0, 2), 200000);
    }

    private static void farmsAreSixAtMost() {
        Checks.sentence("Section 1", "FARMS: at most 6, numbered from 0");
        Station s = new Station();
        Checks.refused("no FARM 0 yet", Checks.INDEX, s, t -> t.ofFarm(0, 0));
        for (int i = 0; i < 6; i++) {
            Checks.equal("the number of a FARM", s.farm(10 + i), i);
            Checks.equal("its HEIGHT by this number", s.ofFarm(i, 0), 10 + i);
            int next = i + 1;
            Checks.equal("so many FARMS", s.many(1), next);
            Checks.refused("no FARM " + next + " yet", Checks.INDEX, s, t -> t.ofFarm(next, 0));
        }
        Checks.refused("a seventh FARM", Checks.STATE, s, t -> t.farm(10));
    }

    private static void farmsHaveHeightLabelAndCoins() {
        Checks.sentence("Section 1", "each with a HEIGHT (10 to 22), a LABEL (the last DAY on which it is certified; "
            + "NONE at first), and COINS (0 at first).");
        Station s = new Station();
        Checks.range("a HEIGHT", Checks.ARGUMENT, s, 10, 22, (t, height) -> t.farm(height));
        s.farm(10);
        s.farm(22);
        Checks.equal("the lowest HEIGHT", s.ofFarm(0, 0), 10);
        Checks.equal("the highest HEIGHT", s.ofFarm(1, 0), 22);
        for (int farm = 0; farm <= 1; farm++) {
            Checks.equal("the first LABEL of FARM " + farm, s.ofFarm(farm, 1), -1);
            Checks.equal("the first COINS of FARM " + farm, s.ofFarm(farm, 2), 0);
        }
        Checks.equal("a LABEL of NONE certifies nothing", s.ofBasket(s.bring(0, 10, 100), 5), 0);
    }

    private static void labelIsTheLastDay() {
        Checks.sentence("Section 1", "a LABEL (the last DAY on which it is certified;");
        Checks.equal("in the first HOUR of the LABEL's DAY", certifiedIn(5 * 24, 5), 1);
        Checks.equal("in the last HOUR of the LABEL's DAY", certifiedIn(5 * 24 + 23, 5), 1);
        Checks.equal("in the first HOUR after it", certifiedIn(6 * 24, 5), 0);
        Checks.equal("with the highest LABEL, in the last HOUR", certifiedIn(20000, 900), 1);
    }

    private static void basketsAreTwentyEver() {
        Checks.sentence("Section 1", "BASKETS: at most 20 ever, numbered from 0, each of a FARM.");
        Station s = stationOf(10, 11);
        s.bed(40);
        s.bed(40);
        Checks.refused("no BASKET 0 yet", Checks.INDEX, s, t -> t.ofBasket(0, 0));
        for (int i = 0; i < 20; i++) {
            int next = i + 1;
            Checks.equal("the number of a BASKET", s.bring(i % 2, 10 + i, 100), i);
            Checks.equal("its FARM by this number", s.ofBasket(i, 0), i % 2);
            Checks.equal("what it holds by this number", s.ofBasket(i, 1), 10 + i);
            Checks.equal("so many BASKETS", s.many(2), next);
            Checks.refused("no BASKET " + next + " yet", Checks.INDEX, s, t -> t.ofBasket(next, 0));
        }
        Checks.refused("a 21st, as all WAIT", Checks.STATE, s, t -> t.bring(0, 10, 100));
        s.pulp(0, 0);
        Checks.refused("a 21st, as one is PULPED", Checks.STATE, s, t -> t.bring(0, 10, 100));
        s.whole(1, 0);
        Checks.refused("a 21st, as one is dried WHOLE", Checks.STATE, s, t -> t.bring(0, 10, 100));
        Checks.equal("SPOILT ones", s.pass(25, 0, 0), 18);
        Checks.refused("a 21st, as the others are SPOILT", Checks.STATE, s, t -> t.bring(0, 10, 100));
        s.store(0);
        s.cup(0, 0);
        s.sell(0, 1, false);
        Checks.refused("a 21st, as one is sold", Checks.STATE, s, t -> t.bring(0, 10, 100));
    }

    private static void kilosAndRipeHaveBounds() {
        Checks.sentence("Section 1", "of its KILOS (1 to 200), of which RIPE (0 to 100) in 100 are ripe");
        Station s = stationOf(10);
        Checks.range("KILOS", Checks.ARGUMENT, s, 1, 200, (t, kilos) -> t.bring(0, kilos, 50));
        Checks.range("RIPE", Checks.ARGUMENT, s, 0, 100, (t, ripe) -> t.bring(0, 50, ripe));
        Checks.equal("the RIPE of none", s.ofBasket(s.bring(0, 1, 0), 2), 0);
        Checks.equal("the RIPE of all", s.ofBasket(s.bring(0, 200, 100), 2), 100);
        Checks.equal("the fewest KILOS", s.ofBasket(0, 1), 1);
        Checks.equal("the most KILOS", s.ofBasket(1, 1), 200);
    }

    private static void floatersAreRoundedDown() {
        Checks.sentence("Section 1", "FLOATERS are taken out: KILOS times (100 less RIPE), divided by 200.");
        int[][] kilosRipeAndFloaters = {{1, 0, 0}, {2, 0, 1}, {3, 0, 1}, {2, 1, 0}, {199, 99, 0}, {200, 99, 1}, {200, 100, 0},
            {200, 0, 100}, {199, 0, 99}, {1, 100, 0}, {100, 98, 1}, {99, 98, 0}, {133, 97, 1}, {134, 97, 2}, {150, 33, 50}};
        for (int[] row : kilosRipeAndFloaters) {
            Station s = stationOf(10);
            s.bring(0, row[0], row[1]);
            String what = row[0] + " KILOS, " + row[1] + " ripe";
            Checks.equal("FLOATERS of " + what, s.many(7), row[2]);
            Checks.equal("the rest of " + what, s.ofBasket(0, 1), row[0] - row[2]);
            Checks.equal("nothing LOST of " + what, s.many(13), 0);
        }
    }

    private static void theRestIsPaidAtOnce() {
        Checks.sentence("Section 1", "The rest is what it holds; it is paid at once: that times the PRICE (1 to 50; "
            + "5 at first), to the FARM, out of MONEY.");
        Station s = stationOf(10, 11);
        Checks.range("a PRICE", Checks.ARGUMENT, s, 1, 50, (t, price) -> t.price(price));
        s.bring(1, 101, 0);
        // 50 of 101 float.
        Checks.equal("COINS for 51, by the first PRICE", s.ofFarm(1, 2), 255);
        Checks.equal("the first PRICE", s.price(1), 5);
        s.bring(1, 7, 100);
        Checks.equal("COINS by the lowest PRICE", s.ofFarm(1, 2), 255 + 7);
        Checks.equal("the lowest PRICE", s.price(50), 1);
        s.bring(1, 1, 100);
        Checks.equal("COINS by the highest PRICE", s.ofFarm(1, 2), 255 + 7 + 50);
        Checks.equal("the highest PRICE", s.price(2), 50);
        Checks.equal("what is paid stays so", s.ofFarm(1, 2), 255 + 7 + 50);
        Checks.equal("MONEY", s.many(6), -255 - 7 - 50);
        Checks.equal("no COINS of another FARM", s.ofFarm(0, 2), 0);
        Checks.equal("KILOS held ever", s.ofFarm(1, 3), 59);
    }

    private static void certifiedIfTheLabelIsNoSmaller() {
        Checks.sentence("Section 1", "It is CERTIFIED for good, if the LABEL is no smaller than the DAY then.");
        Checks.equal("a LABEL one smaller", certifiedIn(72, 2), 0);
        Checks.equal("a LABEL that is the DAY", certifiedIn(72, 3), 1);
        Checks.equal("a LABEL one greater", certifiedIn(72, 4), 1);
        Checks.equal("NONE on DAY 0", certifiedIn(0, -1), 0);
        Checks.equal("a LABEL of 0 on DAY 0", certifiedIn(0, 0), 1);
        Station s = stationOf(10, 11);
        s.label(1, 900);
        Checks.equal("the LABEL of another FARM", s.ofBasket(s.bring(0, 10, 100), 5), 0);
    }

    private static void certifiedForGood() {
        Checks.sentence("Section 1", "It is CERTIFIED for good");
        Station s = stationOf(10);
        s.bed(40);
        s.label(0, 0);
        s.bring(0, 60, 100);
        s.label(0, -1);
        s.bring(0, 60, 100);
        s.label(0, 900);
        Checks.equal("CERTIFIED, as its LABEL is gone", s.ofBasket(0, 5), 1);
        Checks.equal("not CERTIFIED, as a LABEL came later", s.ofBasket(1, 5), 0);
        s.label(0, -1);
        s.pulp(0, 0);
        s.label(0, 900);
        s.pulp(1, 0);
        Checks.equal("CERTIFIED KILOS in a TANK", s.ofTank(0, 4), 30);
        s.pass(24, 0, 0);
        Checks.equal("CERTIFIED on the DAY after", s.ofBasket(0, 5), 1);
        s.wash(0, 0, false);
        Checks.equal("CERTIFIED KILOS in a LOT", s.ofLot(s.store(0), 3), 15);
    }

    private static void itWaitsWithAnAgeOf0() {
        Checks.sentence("Section 1", "It WAITS; its AGE is 0.");
        Station s = stationOf(10);
        s.pass(23, 0, 0);
        s.bring(0, 10, 100);
        Checks.equal("it WAITS", s.ofBasket(0, 3), 0);
        Checks.equal("its first AGE", s.ofBasket(0, 4), 0);
        Checks.equal("what WAITS", s.many(8), 10);
        s.pass(1, 0, 0);
        Checks.equal("its AGE one HOUR later", s.ofBasket(0, 4), 1);
        Checks.equal("the first AGE of another", s.ofBasket(s.bring(0, 10, 100), 4), 0);
    }

    /** The RIPE of a TANK with both, which come to it as halves of baskets that hold twice their KILOS. */
    private static int ripeOfBoth(int kilos, int ripe, int otherKilos, int otherRipe) {
        Station s = stationOf(10, 11);
        s.pulp(Batch.bring(s, 0, 2 * kilos, ripe), 0);
        Checks.equal("RIPE of what comes first", s.ofTank(0, 1), ripe);
        s.pulp(Batch.bring(s, 1, 2 * otherKilos, otherRipe), 0);
        Checks.equal("KILOS of both", s.ofTank(0, 0), kilos + otherKilos);
        return s.ofTank(0, 1);
    }

    private static void ripeOfAMixIsRoundedDown() {
        Checks.sentence("Section 1", "As something comes to a MIX, RIPE is the sum of KILOS times RIPE of both, "
            + "divided by all KILOS.");
        Checks.equal("a half is rounded down", ripeOfBoth(1, 50, 1, 51), 50);
        Checks.equal("in the other order, too", ripeOfBoth(1, 51, 1, 50), 50);
        Checks.equal("none is rounded", ripeOfBoth(1, 50, 1, 52), 51);
        Checks.equal("99 hundredths are rounded down", ripeOfBoth(99, 100, 1, 99), 99);
        Checks.equal("by their KILOS", ripeOfBoth(3, 0, 1, 100), 25);
        Checks.equal("just below 26", ripeOfBoth(20, 0, 7, 100), 25);
        Checks.equal("both of 0", ripeOfBoth(10, 0, 10, 0), 0);
        Checks.equal("both of 100", ripeOfBoth(100, 100, 99, 100), 100);
    }
}
