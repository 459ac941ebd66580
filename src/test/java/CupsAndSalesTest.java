/** Promises 14 to 17, and the faults and scores of section 4. */
public final class CupsAndSalesTest {
    private static final int[] NO_TASTERS = {-1, 3, Integer.MIN_VALUE, Integer.MAX_VALUE};
    private static final int[] NO_LOTS = {-1, 2, 12, Integer.MIN_VALUE, Integer.MAX_VALUE};

    public static void main(String[] args) {
        promise14Bias();
        promise15Cup();
        promise15CupRefuses();
        scoreOfUnripe();
        scoreOfFerment();
        scoreOfMould();
        scoreOfMoisture();
        scoreOfAge();
        scoreOfHeightsAndTies();
        promise16Blend();
        promise16BlendKeepsTheGreater();
        promise16BlendRefuses();
        promise17Sell();
        promise17SellOneKilo();
        promise17SellLabelled();
        promise17SellRefuses();
        Checks.end();
    }

    private static void promise14Bias() {
        Station s = new Station();
        for (int taster : NO_TASTERS) {
            Checks.refused("14: bias(" + taster + ", 0)", Checks.INDEX, s, t -> t.bias(taster, 0));
            Checks.refused("14: bias(" + taster + ", 6)", Checks.INDEX, s, t -> t.bias(taster, 6));
        }
        for (int bias : new int[] {-6, 6, Integer.MIN_VALUE, Integer.MAX_VALUE}) {
            Checks.refused("14: bias(0, " + bias + ")", Checks.ARGUMENT, s, t -> t.bias(0, bias));
        }
        Checks.equal("14: bias(0, -5)", s.bias(0, -5), 0);
        Checks.equal("14: bias(2, 5)", s.bias(2, 5), 0);
        Checks.refused("14: bias(0, 6)", Checks.ARGUMENT, s, t -> t.bias(0, 6));
        Checks.equal("14: bias(0, 1)", s.bias(0, 1), -5);
        Checks.equal("14: bias(2, 0)", s.bias(2, 0), 5);
        Checks.equal("14: bias(1, 0)", s.bias(1, 0), 0);
    }

    private static void promise15Cup() {
        Station s = new Station();
        s.farm(12);
        s.bed(40);
        Checks.naturalLot(s, 0, 90, 0);
        Checks.naturalLot(s, 0, 90, 0);
        // Of the moisture 600 the fault is 47, which leaves 68 + 12 + 2 - 47, so 40 at least.
        Checks.equal("15: no grade at first", s.ofLot(0, 9), -1);
        s.bias(0, -5);
        s.bias(1, 4);
        Checks.equal("15: reading of taster 0", s.cup(0, 0), 35);
        Checks.equal("15: grade of one", s.ofLot(0, 9), 35);
        Checks.equal("15: reading of taster 1", s.cup(0, 1), 44);
        Checks.equal("15: grade of two", s.ofLot(0, 9), 39);
        Checks.equal("15: reading of taster 2", s.cup(0, 2), 40);
        Checks.equal("15: grade of three", s.ofLot(0, 9), 39);
        s.bias(0, 5);
        Checks.equal("15: a bias of now leaves readings", s.ofLot(0, 9), 39);
        Checks.equal("15: a newer reading", s.cup(0, 0), 45);
        Checks.equal("15: is in place of the older", s.ofLot(0, 9), 43);
        Checks.equal("15: no grade of another lot", s.ofLot(1, 9), -1);
        Checks.equal("15: the score is without bias", s.ofLot(0, 10), 40);
    }

    private static void promise15CupRefuses() {
        Station s = new Station();
        s.farm(12);
        s.bed(40);
        Checks.refused("15: cup without lots", Checks.INDEX, s, t -> t.cup(0, 0));
        Checks.naturalLot(s, 0, 90, 0);
        Checks.naturalLot(s, 0, 90, 0);
        for (int lot : NO_LOTS) {
            Checks.refused("15: cup(" + lot + ", 0)", Checks.INDEX, s, t -> t.cup(lot, 0));
        }
        for (int taster : NO_TASTERS) {
            Checks.refused("15: cup(0, " + taster + ")", Checks.INDEX, s, t -> t.cup(0, taster));
        }
        s.blend(0, 1);
        Checks.refused("15: the one blended away", Checks.STATE, s, t -> t.cup(1, 0));
        s.cup(0, 0);
        s.sell(0, 1, false);
        Checks.refused("15: a sold one", Checks.STATE, s, t -> t.cup(0, 0));
        Checks.refused("15: a sold one, by no taster", Checks.INDEX, s, t -> t.cup(0, 3));
    }

    /** A station with one farm of height 12, and a bed of 40 with a mix of 30 kilos, dried to 110. */
    private static Station driedWhole(int ripe) {
        Station s = new Station();
        s.farm(12);
        s.bed(40);
        s.bring(0, 30, ripe);
        s.whole(0, 0);
        dryTo110(s, 600, 0);
        return s;
    }

    private static void dryTo110(Station s, int from, int bed) {
        int left = from - 110;
        while (left > 0) {
            int warmth = Math.min(40, left);
            int before = s.ofBed(bed, 4);
            s.turn(bed);
            s.pass(1, warmth, 0);
            left -= before - s.ofBed(bed, 4);
        }
    }

    private static void checkScore(String what, Station s, int lot, int score, int cause) {
        Checks.equal(what + ", score", s.ofLot(lot, 10), score);
        Checks.equal(what + ", cause", s.ofLot(lot, 11), cause);
    }

    private static void scoreOfUnripe() {
        int[][] ripeAndFault = {{100, 0}, {96, 0}, {95, 1}, {91, 1}, {90, 2}, {76, 4}, {1, 19}, {0, 20}};
        for (int[] row : ripeAndFault) {
            Station s = driedWhole(row[0]);
            s.store(0);
            Checks.equal("score: moisture", s.ofLot(0, 7), 110);
            Checks.equal("score: mould", s.ofLot(0, 6), 0);
            checkScore("score: ripe " + row[0], s, 0, 68 + 12 + 2 - row[1], row[1] == 0 ? 0 : 1);
        }
    }

    /** A lot of 10 kilos with the points and the moisture 110, washed or (with points below 30) of honey. */
    private static Station wetOne(int points, boolean isHoney) {
        Station s = new Station();
        s.farm(12);
        s.bed(40);
        s.bring(0, 40, 100);
        s.pulp(0, 0);
        Checks.passLong(s, points, 4, 0);
        s.wash(0, 0, isHoney);
        dryTo110(s, isHoney ? 570 : 550, 0);
        s.store(0);
        Checks.equal("score: points", s.ofLot(0, 5), points);
        Checks.equal("score: moisture", s.ofLot(0, 7), 110);
        Checks.equal("score: mould", s.ofLot(0, 6), 0);
        return s;
    }

    private static void scoreOfFerment() {
        int[][] pointsAndFault = {{60, 0}, {56, 0}, {55, 1}, {51, 1}, {50, 2}, {1, 11}, {0, 12},
            {100, 0}, {104, 0}, {105, 1}, {109, 1}, {110, 2}, {205, 21}};
        for (int[] row : pointsAndFault) {
            Station s = wetOne(row[0], false);
            checkScore("score: points " + row[0], s, 0, 80 - row[1], row[1] == 0 ? 0 : 2);
        }
        checkScore("score: honey without points", wetOne(0, true), 0, 81, 0);
        checkScore("score: honey with points", wetOne(29, true), 0, 81, 0);
    }

    private static void scoreOfMould() {
        Station s = new Station();
        s.farm(12);
        s.bed(40);
        s.bed(40);
        s.whole(s.bring(0, 30, 100), 0);
        s.pulp(s.bring(0, 40, 100), 0);
        s.wash(0, 1, true);
        s.pass(36, 0, 0);
        dryTo110(s, 570, 1);
        s.turn(0);
        Checks.passLong(s, 24, 30, 0);
        s.store(0);
        s.store(1);
        int mould = s.ofLot(0, 6);
        Checks.equal("score: mould of honey", s.ofLot(1, 6), 3);
        Checks.equal("score: honey less its mould, and 3 for 80", s.ofLot(1, 10), 68 + 12 + 1 - 3 - 3);
        Checks.equal("score: of two faults the smaller number", s.ofLot(1, 11), 3);
        Checks.equal("score: natural less twice its mould, and 3 for 80", s.ofLot(0, 10), 68 + 12 + 2 - 2 * mould - 3);
        Checks.equal("score: cause mould", s.ofLot(0, 11), 3);
    }

    private static void scoreOfMoisture() {
        int[][] moistureAndFault = {{125, 0}, {126, 0}, {134, 0}, {135, 1}, {144, 1}, {145, 2}, {200, 7},
            {95, 0}, {94, 0}, {91, 0}, {90, 1}, {86, 1}, {85, 2}, {80, 3}};
        for (int[] row : moistureAndFault) {
            Station s = new Station();
            s.farm(12);
            s.bed(40);
            s.whole(s.bring(0, 30, 100), 0);
            int left = 600 - row[0];
            while (left > 0) {
                s.turn(0);
                int before = s.ofBed(0, 4);
                s.pass(1, Math.min(40, left), 0);
                left -= before - s.ofBed(0, 4);
            }
            s.store(0);
            Checks.equal("score: moisture", s.ofLot(0, 7), row[0]);
            checkScore("score: moisture " + row[0], s, 0, 82 - row[1], row[1] == 0 ? 0 : 4);
        }
    }

    private static void scoreOfAge() {
        Station s = driedWhole(100);
        s.store(0);
        int[][] daysAndFault = {{29, 0}, {1, 1}, {29, 1}, {1, 2}, {540, 20}};
        for (int[] row : daysAndFault) {
            Checks.passLong(s, 24 * row[0], 0, 0);
            checkScore("score: age " + s.ofLot(0, 8), s, 0, 82 - row[1], row[1] == 0 ? 0 : 5);
        }
    }

    private static void scoreOfHeightsAndTies() {
        Station s = new Station();
        s.farm(22);
        s.farm(13);
        s.bed(40);
        s.pulp(s.bring(0, 36, 100), 0);
        s.pulp(s.bring(1, 42, 100), 0);
        Checks.passLong(s, 55, 4, 0);
        s.wash(0, 0, false);
        dryTo110(s, 550, 0);
        s.store(0);
        // 9 kilos of 22 and 10 of 13 are 328, by 19: 17. One fault of FERMENT, with 55 points.
        checkScore("score: mean height, rounded down", s, 0, 68 + 17 - 1, 2);
        s.pulp(s.bring(0, 4, 100), 0);
        s.pulp(s.bring(1, 36, 100), 0);
        Checks.passLong(s, 60, 4, 0);
        s.wash(0, 0, false);
        dryTo110(s, 550, 0);
        s.store(0);
        // One kilo of 22 and 9 of 13 are 139, by 10: 13.
        checkScore("score: mean height, just below 14", s, 1, 68 + 13, 0);
        Checks.passLong(s, 24 * 30, 0, 0);
        checkScore("score: two faults of 1", s, 0, 68 + 17 - 2, 2);
        Checks.passLong(s, 24 * 30, 0, 0);
        checkScore("score: the greater fault", s, 0, 68 + 17 - 3, 5);
    }

    private static void promise16Blend() {
        Station s = new Station();
        s.farm(20);
        s.farm(11);
        s.label(1, 900);
        s.bed(40);
        s.bed(40);
        s.pulp(s.bring(0, 40, 90), 0);
        s.pass(1, 40, 0);
        s.pulp(s.bring(1, 101, 71), 1);
        s.pass(2, 40, 0);
        s.wash(0, 0, false);
        s.pass(24, 0, 1);
        s.store(0);
        s.wash(1, 1, false);
        s.pass(24, 0, 0);
        s.store(1);
        int[] first = {9, 0, 1, 0, 90, 30, 2, 574, 1, -1};
        int[] second = {21, 0, 1, 21, 71, 20, 2, 550, 0, -1};
        for (int what = 0; what <= 9; what++) {
            Checks.equal("16: first, ofLot(0, " + what + ")", s.ofLot(0, what), first[what]);
            Checks.equal("16: second, ofLot(1, " + what + ")", s.ofLot(1, what), second[what]);
        }
        s.cup(0, 0);
        s.cup(1, 1);
        int lost = s.many(13);
        Checks.equal("16: kilos then", s.blend(1, 0), 30);
        // 21 times 71 and 9 times 90 are 2301, by 30: 76; points 690 / 30; moisture 16716 / 30: 557.
        int[] blended = {30, 0, 1, 21, 76, 23, 2, 557, 1, -1};
        int[] gone = {0, 0, 0, 0, 0, 30, 2, 574, 1, -1, 0, 0};
        for (int what = 0; what <= 9; what++) {
            Checks.equal("16: blended, ofLot(1, " + what + ")", s.ofLot(1, what), blended[what]);
        }
        for (int what = 0; what <= 11; what++) {
            Checks.equal("16: the other one, ofLot(0, " + what + ")", s.ofLot(0, what), gone[what]);
        }
        Checks.equal("16: of farm 0", s.kilosOf(1, 0), 9);
        Checks.equal("16: of farm 1", s.kilosOf(1, 1), 21);
        Checks.equal("16: no more in the other", s.kilosOf(0, 0), 0);
        Checks.equal("16: lots ever", s.many(4), 2);
        Checks.equal("16: lots in store", s.many(5), 1);
        Checks.equal("16: nothing lost", s.many(13), lost);
        s.pass(24, 0, 0);
        Checks.equal("16: the other one's age stays", s.ofLot(0, 8), 1);
    }

    private static void promise16BlendKeepsTheGreater() {
        int[][] firstAndOther = {{0, 1}, {1, 0}};
        for (int[] pair : firstAndOther) {
            Station s = new Station();
            s.farm(20);
            s.bed(40);
            s.bed(40);
            s.whole(s.bring(0, 30, 100), 0);
            s.pass(40, 0, 0);
            s.store(0);
            s.whole(s.bring(0, 60, 100), 1);
            s.pass(14, 0, 0);
            s.store(1);
            Checks.equal("16: mould of both", s.ofLot(0, 6) * 10 + s.ofLot(1, 6), 31);
            Checks.equal("16: age of both", s.ofLot(0, 8) * 10 + s.ofLot(1, 8), 10);
            s.blend(pair[0], pair[1]);
            Checks.equal("16: the greater mould", s.ofLot(pair[0], 6), 3);
            Checks.equal("16: the greater age", s.ofLot(pair[0], 8), 1);
        }
    }

    private static void promise16BlendRefuses() {
        Station s = new Station();
        s.farm(20);
        s.bed(40);
        Checks.refused("16: blend without lots", Checks.INDEX, s, t -> t.blend(0, 0));
        Checks.wetLot(s, 0, 40, 0, 0, false);
        Checks.wetLot(s, 0, 40, 0, 0, true);
        for (int lot : NO_LOTS) {
            Checks.refused("16: blend(" + lot + ", 0)", Checks.INDEX, s, t -> t.blend(lot, 0));
            Checks.refused("16: blend(0, " + lot + ")", Checks.INDEX, s, t -> t.blend(0, lot));
            Checks.refused("16: twice " + lot, Checks.INDEX, s, t -> t.blend(lot, lot));
        }
        Checks.refused("16: the same", Checks.ARGUMENT, s, t -> t.blend(1, 1));
        Checks.refused("16: two methods", Checks.STATE, s, t -> t.blend(0, 1));
        Checks.naturalLot(s, 0, 40, 0);
        Checks.refused("16: honey and natural", Checks.STATE, s, t -> t.blend(1, 2));
        Checks.wetLot(s, 0, 40, 0, 0, true);
        s.cup(3, 0);
        s.sell(3, 1, false);
        Checks.refused("16: with a sold one", Checks.STATE, s, t -> t.blend(1, 3));
        Checks.refused("16: a sold one first", Checks.STATE, s, t -> t.blend(3, 1));
        Checks.refused("16: the same sold one", Checks.ARGUMENT, s, t -> t.blend(3, 3));
    }

    private static void promise17Sell() {
        Station s = new Station();
        s.farm(20);
        s.farm(11);
        s.farm(15);
        s.bed(40);
        s.pulp(s.bring(0, 52, 100), 0);
        s.pulp(s.bring(2, 28, 100), 0);
        s.wash(0, 0, false);
        s.store(0);
        s.cup(0, 1);
        int money = s.many(6);
        // 13 and 7 kilos for 37 each bring 740; two fifths of what 13 of 20 have are 192.4, of 7: 103.6.
        Checks.equal("17: what money gets", s.sell(0, 37, true), 740 - 192 - 103);
        Checks.equal("17: coins of farm 0", s.ofFarm(0, 2), 5 * 52 + 192);
        Checks.equal("17: coins of farm 1", s.ofFarm(1, 2), 0);
        Checks.equal("17: coins of farm 2", s.ofFarm(2, 2), 5 * 28 + 103);
        Checks.equal("17: money", s.many(6) - money, 740 - 192 - 103);
        Checks.equal("17: sold", s.many(12), 20);
        Checks.equal("17: not in store", s.ofLot(0, 2), 0);
        Checks.equal("17: none in store", s.many(5) + s.many(11) + s.ofFarm(0, 4), 0);
        Checks.equal("17: its kilos stay", s.ofLot(0, 0), 20);
        Checks.equal("17: its readings stay", s.ofLot(0, 9), 40);
        Checks.equal("17: its mix stays", s.kilosOf(0, 2), 7);
        Checks.equal("17: its score stays", s.ofLot(0, 10), 40);
        Checks.refused("17: sold twice", Checks.STATE, s, t -> t.sell(0, 37, true));
    }

    private static void promise17SellOneKilo() {
        Station s = new Station();
        s.farm(22);
        s.bed(40);
        s.bring(0, 3, 100);
        s.whole(0, 0);
        dryTo110(s, 600, 0);
        s.store(0);
        checkScore("17: of one kilo", s, 0, 68 + 22 + 2, 0);
        s.cup(0, 0);
        Checks.equal("17: one kilo for 200", s.sell(0, 200, false), 120);
        Checks.equal("17: and the farm's share", s.ofFarm(0, 2), 15 + 80);
    }

    /** What a lot with this grade brings, of 10 certified and 10 other kilos, for 1 each. */
    private static int soldWithGrade(int grade, boolean isLabelled) {
        Station s = driedWhole(100);
        s.bed(40);
        s.label(0, 900);
        s.whole(s.bring(0, 30, 100), 1);
        s.label(0, -1);
        dryTo110(s, 600, 1);
        s.store(0);
        s.store(1);
        Checks.equal("17: certified kilos", s.ofLot(1, 3), 10);
        s.blend(1, 0);
        s.bias(0, grade - s.ofLot(1, 10));
        s.cup(1, 0);
        Checks.equal("17: grade", s.ofLot(1, 9), grade);
        int would = s.wouldShare(1, 0, 1, isLabelled);
        int coins = s.ofFarm(0, 2);
        int rest = s.sell(1, 1, isLabelled);
        Checks.equal("17: the farm's share", s.ofFarm(0, 2) - coins, would);
        return rest + would;
    }

    private static void promise17SellLabelled() {
        Checks.equal("17: labelled, with a grade of 80", soldWithGrade(80, true), 20 + 100);
        Checks.equal("17: labelled, with a grade of 79", soldWithGrade(79, true), 20);
        Checks.equal("17: not labelled, with a grade of 80", soldWithGrade(80, false), 20);
        Checks.equal("17: labelled, with a grade of 83", soldWithGrade(83, true), 20 + 100);
    }

    private static void promise17SellRefuses() {
        Station s = new Station();
        s.farm(20);
        s.bed(40);
        Checks.refused("17: sell without lots", Checks.INDEX, s, t -> t.sell(0, 1, false));
        Checks.naturalLot(s, 0, 40, 0);
        Checks.naturalLot(s, 0, 40, 0);
        s.cup(0, 0);
        for (int lot : NO_LOTS) {
            Checks.refused("17: sell(" + lot + ", 1)", Checks.INDEX, s, t -> t.sell(lot, 1, true));
            Checks.refused("17: sell(" + lot + ", 0)", Checks.INDEX, s, t -> t.sell(lot, 0, true));
        }
        for (int price : new int[] {0, 201, -1, Integer.MIN_VALUE, Integer.MAX_VALUE}) {
            Checks.refused("17: sell(0, " + price + ")", Checks.ARGUMENT, s, t -> t.sell(0, price, true));
            Checks.refused("17: without grade, sell(1, " + price + ")", Checks.ARGUMENT, s,
                t -> t.sell(1, price, true));
        }
        Checks.refused("17: without a grade", Checks.STATE, s, t -> t.sell(1, 1, false));
        s.blend(0, 1);
        Checks.refused("17: its grade is gone", Checks.STATE, s, t -> t.sell(0, 1, false));
        Checks.refused("17: blended away", Checks.STATE, s, t -> t.sell(1, 1, false));
        s.cup(0, 2);
        // 26 kilos for 200 are 5200; two fifths of that are the farm's.
        Checks.equal("17: for 200 each", s.sell(0, 200, false), 5200 - 2080);
        Checks.refused("17: sold already", Checks.STATE, s, t -> t.sell(0, 1, false));
    }
}
