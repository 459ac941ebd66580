/** Promises 18 to 25: what their questions answer at the bounds. */
public final class QuestionAnswersBoundsTest {
    public static void main(String[] args) {
        ofFarmWithoutAndWithAll();
        ofBasketByWhatBecameOfIt();
        ofTankOfAnEmptyOne();
        ofBedOfAnEmptyOne();
        ofLotOfEachMethod();
        ofLotWithoutKilos();
        kilosOfEachFarm();
        manyOfAnEmptyAndAFullOne();
        meanScoreIsNotRounded();
        Checks.end();
    }

    private static Station stationOf(int... heights) {
        Station s = new Station();
        for (int height : heights) {
            s.farm(height);
        }
        s.bed(40);
        return s;
    }

    private static void row(String what, int[] got, int... due) {
        Checks.equal(what + ", how many", got.length, due.length);
        for (int i = 0; i < due.length; i++) {
            Checks.equal(what + ", " + i, got[i], due[i]);
        }
    }

    private static int[] farm(Station s, int farm) {
        int[] got = new int[5];
        for (int what = 0; what < got.length; what++) {
            got[what] = s.ofFarm(farm, what);
        }
        return got;
    }

    private static int[] basket(Station s, int basket) {
        int[] got = new int[6];
        for (int what = 0; what < got.length; what++) {
            got[what] = s.ofBasket(basket, what);
        }
        return got;
    }

    private static void ofFarmWithoutAndWithAll() {
        Checks.sentence("Promise 18", "0 its HEIGHT, 1 LABEL, 2 COINS, 3 KILOS that its BASKETS held ever (without "
            + "FLOATERS), 4 KILOS of it in LOTS that are in store");
        Station s = stationOf(10, 22);
        row("a new FARM", farm(s, 1), 22, -1, 0, 0, 0);
        s.label(1, 900);
        s.bring(1, 200, 0);
        row("half of it FLOATERS", farm(s, 1), 22, 900, 500, 100, 0);
        s.pass(25, 0, 0);
        row("what it held is SPOILT", farm(s, 1), 22, 900, 500, 100, 0);
        Checks.naturalLot(s, 1, 5, 0);
        row("one KILO in store", farm(s, 1), 22, 900, 525, 105, 1);
        Checks.naturalLot(s, 1, 30, 0);
        row("two LOTS in store", farm(s, 1), 22, 900, 675, 135, 11);
        s.blend(0, 1);
        row("both blended", farm(s, 1), 22, 900, 675, 135, 11);
        s.cup(0, 0);
        s.sell(0, 1, false);
        row("all sold", farm(s, 1), 22, 900, 679, 135, 0);
        row("the other FARM", farm(s, 0), 10, -1, 0, 0, 0);
        s.price(50);
        for (int i = s.many(2); i < 20; i++) {
            s.bring(0, 200, 100);
        }
        row("17 of the most", farm(s, 0), 10, -1, 170000, 3400, 0);
    }

    private static void ofBasketByWhatBecameOfIt() {
        Checks.sentence("Promise 19", "0 its FARM, 1 what it holds, or held as it was PULPED, dried WHOLE or SPOILT, "
            + "2 RIPE, 3 0 if it WAITS, 1 PULPED, 2 dried WHOLE, 3 SPOILT, 4 AGE (as it was by then), 5 1 if it is "
            + "CERTIFIED, otherwise 0");
        Station s = stationOf(10, 22);
        s.label(1, 0);
        s.bring(1, 200, 0);
        s.bring(0, 3, 100);
        s.bring(1, 1, 0);
        s.bring(0, 199, 99);
        row("WAITS at first", basket(s, 0), 1, 100, 0, 0, 0, 1);
        s.pulp(1, 0);
        row("PULPED at once", basket(s, 1), 0, 3, 100, 1, 0, 0);
        s.pass(24, 0, 0);
        row("WAITS at 24", basket(s, 0), 1, 100, 0, 0, 24, 1);
        s.whole(2, 0);
        row("dried WHOLE at 24", basket(s, 2), 1, 1, 0, 2, 24, 1);
        s.pulp(3, 1);
        row("PULPED at 24", basket(s, 3), 0, 199, 99, 1, 24, 0);
        s.pass(1, 0, 0);
        row("SPOILT at 25", basket(s, 0), 1, 100, 0, 3, 25, 1);
        s.pass(100, 0, 0);
        row("SPOILT long ago", basket(s, 0), 1, 100, 0, 3, 25, 1);
        row("PULPED long ago", basket(s, 1), 0, 3, 100, 1, 0, 0);
        row("dried WHOLE long ago", basket(s, 2), 1, 1, 0, 2, 24, 1);
        row("PULPED at 24, long ago", basket(s, 3), 0, 199, 99, 1, 24, 0);
    }

    private static void ofTankOfAnEmptyOne() {
        Checks.sentence("Promise 20", "0 its KILOS, 1 RIPE, 2 AGE, 3 POINTS, 4 KILOS that are CERTIFIED (0 to 4: 0, "
            + "if it is empty)");
        Station s = stationOf(10);
        s.label(0, 900);
        for (int round = 0; round <= 1; round++) {
            for (int tank = 0; tank <= 2; tank++) {
                for (int what = 0; what <= 4; what++) {
                    Checks.equal("ofTank(" + tank + ", " + what + ") of an empty one", s.ofTank(tank, what), 0);
                }
            }
            s.pulp(s.bring(0, 200, 50), 1);
            s.pass(7, 40, 0);
            int[] due = {75, 50, 7, 70, 75};
            for (int what = 0; what <= 4; what++) {
                Checks.equal("ofTank(1, " + what + ") with a MIX", s.ofTank(1, what), due[what]);
                Checks.equal("ofTank(2, " + what + ") beside it", s.ofTank(2, what), 0);
            }
            s.wash(1, 0, false);
            s.store(0);
            s.pass(7, 40, 0);
        }
    }

    private static void ofBedOfAnEmptyOne() {
        Checks.sentence("Promise 21", "0 its AREA, 1 1 if it is COVERED, otherwise 0; 2 KILOS, 3 METHOD, 4 MOISTURE, "
            + "5 UNTURNED, 6 MOULD, 7 POINTS (2 to 7: 0, if it is empty)");
        Station s = new Station();
        s.farm(10);
        s.bed(5);
        s.bed(40);
        s.cover(0, true);
        for (int round = 0; round <= 1; round++) {
            int[] empty = {5, 1, 0, 0, 0, 0, 0, 0};
            for (int what = 0; what <= 7; what++) {
                Checks.equal("ofBed(0, " + what + ") of an empty one", s.ofBed(0, what), empty[what]);
            }
            s.pulp(s.bring(0, 20, 100), 0);
            s.pass(2, 40, 0);
            s.wash(0, 0, true);
            s.pass(12, 0, 20);
            int[] due = {5, 1, 10, 1, 570, 12, 1, 20};
            for (int what = 0; what <= 7; what++) {
                Checks.equal("ofBed(0, " + what + ") with a MIX", s.ofBed(0, what), due[what]);
                Checks.equal("ofBed(1, " + what + ") beside it", s.ofBed(1, what), what == 0 ? 40 : 0);
            }
            s.store(0);
            s.pass(12, 40, 20);
        }
    }

    private static void ofLotOfEachMethod() {
        Checks.sentence("Promise 22", "0 its KILOS, 1 METHOD, 2 1 if it is in store, otherwise 0, 3 KILOS that are "
            + "CERTIFIED, 4 RIPE, 5 POINTS, 6 MOULD, 7 MOISTURE, 8 AGE, 9 GRADE,");
        Batch[] batches = {Batch.washed(59), Batch.honey(29), Batch.natural()};
        int[] points = {59, 29, 0};
        for (int method = 0; method <= 2; method++) {
            Station s = stationOf(10, 22);
            s.label(1, method == 1 ? -1 : 900);
            batches[method].farm(1).kilos(6).ripe(99).mould(1).moisture(125).store(s, 0);
            Checks.passLong(s, 24 * 29, 0, 0);
            int kilos = method == 2 ? 2 : 3;
            int score = 68 + 22 + method - (method == 2 ? 2 : 1);
            row("METHOD " + method, lot(s), kilos, method, 1, method == 1 ? 0 : kilos, 99, points[method], 1, 125, 29, -1, score,
                3);
            s.bias(2, -5);
            s.cup(0, 2);
            s.sell(0, 1, true);
            s.pass(24, 0, 0);
            row("METHOD " + method + ", sold", lot(s), kilos, method, 0, method == 1 ? 0 : kilos, 99, points[method], 1, 125, 29,
                score - 5, score, 3);
        }
    }

    private static int[] lot(Station s) {
        int[] got = new int[12];
        for (int what = 0; what < got.length; what++) {
            got[what] = s.ofLot(0, what);
        }
        return got;
    }

    private static void ofLotWithoutKilos() {
        Checks.sentence("Promise 22", "10 SCORE (0 without KILOS), 11 CAUSE (0 without KILOS)");
        Station s = stationOf(10);
        Checks.naturalLot(s, 0, 3, 0);
        Checks.naturalLot(s, 0, 3, 0);
        int[] due = {1, 2, 1, 0, 100, 0, 0, 600, 0, -1, 40, 4};
        for (int what = 0; what <= 11; what++) {
            Checks.equal("ofLot(1, " + what + ") of one KILO", s.ofLot(1, what), due[what]);
        }
        s.blend(0, 1);
        int[] without = {0, 2, 0, 0, 0, 0, 0, 600, 0, -1, 0, 0};
        for (int what = 0; what <= 11; what++) {
            Checks.equal("ofLot(1, " + what + ") without KILOS", s.ofLot(1, what), without[what]);
        }
        s.cup(0, 0);
        s.sell(0, 1, false);
        Checks.equal("SCORE of one that is sold", s.ofLot(0, 10), 40);
        Checks.equal("CAUSE of one that is sold", s.ofLot(0, 11), 4);
    }

    private static void kilosOfEachFarm() {
        Checks.sentence("Promise 23", "Returns the KILOS of that FARM in it.");
        Station s = stationOf(10, 11, 12, 13, 14, 15);
        for (int farm = 0; farm < 6; farm += 5) {
            s.pulp(s.bring(farm, 4 + 4 * farm, 100), 0);
        }
        s.wash(0, 0, false);
        s.store(0);
        Checks.naturalLot(s, 2, 3, 0);
        row("of a LOT of two FARMS", kilos(s, 0), 1, 0, 0, 0, 0, 6);
        row("of a LOT of one", kilos(s, 1), 0, 0, 1, 0, 0, 0);
        s.cup(1, 0);
        s.sell(1, 1, false);
        row("of one that is sold", kilos(s, 1), 0, 0, 1, 0, 0, 0);
        s.pulp(s.bring(5, 4, 100), 0);
        s.wash(0, 0, false);
        s.store(0);
        s.blend(2, 0);
        row("of one that is blended", kilos(s, 2), 1, 0, 0, 0, 0, 7);
        row("of one that is blended away", kilos(s, 0), 0, 0, 0, 0, 0, 0);
    }

    private static int[] kilos(Station s, int lot) {
        int[] got = new int[6];
        for (int farm = 0; farm < got.length; farm++) {
            got[farm] = s.kilosOf(lot, farm);
        }
        return got;
    }

    private static int[] many(Station s) {
        int[] got = new int[16];
        for (int what = 0; what < got.length; what++) {
            got[what] = s.many(what);
        }
        return got;
    }

    private static void manyOfAnEmptyAndAFullOne() {
        Checks.sentence("Promise 24", "0 HOUR, 1 FARMS, 2 BASKETS, 3 BEDS, 4 LOTS, 5 those in store, 6 MONEY, 7 "
            + "FLOATERS ever, 8 what BASKETS that WAIT hold, 9 KILOS in TANKS, 10 on BEDS, 11 in LOTS in store, 12 "
            + "KILOS that were sold, 13 LOST, 14 WATER, 15 all COINS of FARMS");
        Station s = new Station();
        row("a new one", many(s), 0, 0, 0, 0, 0, 0, 0, 0, 0, 0, 0, 0, 0, 0, 0, 0);
        for (int i = 0; i < 6; i++) {
            s.farm(10);
        }
        for (int i = 0; i < 5; i++) {
            s.bed(25);
        }
        for (int i = 0; i < 20; i++) {
            s.bring(i % 6, 200, i == 19 ? 0 : i == 18 ? 50 : 100);
        }
        row("all BASKETS", many(s), 0, 6, 20, 5, 0, 0, -19250, 150, 3850, 0, 0, 0, 0, 0, 0, 19250);
        for (int i = 0; i < 9; i++) {
            s.pulp(i, i / 3);
        }
        row("all TANKS full", many(s), 0, 6, 20, 5, 0, 0, -19250, 150, 2050, 900, 0, 0, 0, 900, 0, 19250);
        for (int i = 0; i < 3; i++) {
            s.wash(i, i, i == 1);
        }
        s.whole(9, 3);
        s.whole(10, 4);
        row("all BEDS", many(s), 0, 6, 20, 5, 0, 0, -19250, 150, 1650, 0, 1300, 0, 0, 900, 1800, 19250);
        for (int i = 0; i < 5; i++) {
            s.store(i);
        }
        // Halves of 300 are 150, of each FARM 50; a third of 200 is 66.
        row("LOTS", many(s), 0, 6, 20, 5, 5, 5, -19250, 150, 1650, 0, 0, 582, 0, 1618, 1800, 19250);
        s.pass(25, 0, 0);
        row("SPOILT ones", many(s), 25, 6, 20, 5, 5, 5, -19250, 150, 0, 0, 0, 582, 0, 3268, 1800, 19250);
        s.blend(3, 4);
        row("two blended", many(s), 25, 6, 20, 5, 5, 4, -19250, 150, 0, 0, 0, 582, 0, 3268, 1800, 19250);
        for (int lot = 0; lot <= 3; lot++) {
            s.cup(lot, 0);
            s.sell(lot, 5, false);
        }
        // Of 5 for a KILO a FARM gets 2.
        row("all sold", many(s), 25, 6, 20, 5, 5, 0, -19250 + 3 * 582, 150, 0, 0, 0, 0, 582, 3268, 1800, 19250 + 2 * 582);
    }

    private static void meanScoreIsNotRounded() {
        Checks.sentence("Promise 25", "Returns the sum of KILOS times SCORE of LOTS in store, divided by all their "
            + "KILOS, not rounded; 0 without any.");
        Station s = stationOf(10, 12);
        Checks.same("without LOTS", s.meanScore(), 0.0);
        Batch.natural().kilos(6).store(s, 0);
        Checks.same("of one", s.meanScore(), 80.0);
        Batch.natural().farm(1).kilos(3).store(s, 0);
        Checks.same("of 2 KILOS of 80 and one of 82", s.meanScore(), 242.0 / 3.0);
        Checks.naturalLot(s, 0, 21, 0);
        Checks.same("and 7 of 40", s.meanScore(), 522.0 / 10.0);
        Station blended = s.twin();
        blended.blend(1, 0);
        int score = blended.ofLot(1, 10);
        Checks.equal("the SCORE of 2 KILOS of HEIGHT 10 and one of 12", score, 80);
        Checks.same("with two of them blended", blended.meanScore(), (3 * 80 + 7 * 40) / 10.0);
        for (int lot = 0; lot <= 2; lot++) {
            s.cup(lot, 0);
        }
        s.sell(0, 1, false);
        Checks.same("of one KILO of 82 and 7 of 40", s.meanScore(), 362.0 / 8.0);
        s.sell(2, 1, false);
        Checks.same("of one KILO", s.meanScore(), 82.0);
        s.sell(1, 1, false);
        Checks.same("of none in store", s.meanScore(), 0.0);
        Station full = stationOf(10);
        for (int i = 0; i < 11; i++) {
            Checks.naturalLot(full, 0, 3, 0);
        }
        Batch.natural().kilos(6).store(full, 0);
        Checks.same("of twelve, 11 KILOS of 40 and 2 of 80", full.meanScore(), 600.0 / 13.0);
    }
}
