/** Promises 1 to 17: what their calls answer at the bounds. */
public final class CallAnswersBoundsTest {
    public static void main(String[] args) {
        newStation();
        farmBedBasketAndLotNumbers();
        labelAnswersThatBefore();
        labelOfNoneCertifiesNothing();
        priceAnswersThatBefore();
        passAnswersHowManySpoilt();
        pulpAnswersKilosOfTheTank();
        washAnswersItsKilos();
        wholeAnswersWhatTheBasketHeld();
        turnAnswersUnturnedBefore();
        coverAnswersWhetherItWas();
        biasAnswersThatBefore();
        cupAnswersItsReading();
        blendAnswersKilosOfTheFirst();
        sellAnswersWhatMoneyGets();
        Checks.end();
    }

    private static void newStation() {
        Checks.sentence("Promise 1", "Creates a station without FARMS and BEDS.");
        Station s = new Station();
        for (int what = 0; what <= 15; what++) {
            Checks.equal("many(" + what + ")", s.many(what), 0);
        }
        for (int tank = 0; tank <= 2; tank++) {
            for (int what = 0; what <= 4; what++) {
                Checks.equal("ofTank(" + tank + ", " + what + ")", s.ofTank(tank, what), 0);
            }
            Checks.equal("readyIn(" + tank + ", 40)", s.readyIn(tank, 40), -1);
        }
        Checks.same("meanScore()", s.meanScore(), 0.0);
        Checks.equal("bestBlend()", s.bestBlend(), -1);
        Checks.refused("FARM 0", Checks.INDEX, s, t -> t.ofFarm(0, 0));
        Checks.refused("BASKET 0", Checks.INDEX, s, t -> t.ofBasket(0, 0));
        Checks.refused("BED 0", Checks.INDEX, s, t -> t.ofBed(0, 0));
        Checks.refused("LOT 0", Checks.INDEX, s, t -> t.ofLot(0, 0));
        Station other = Rich.station();
        Checks.equal("another one has FARMS", other.many(1), Rich.FARMS);
        Checks.equal("a new one beside it has none", new Station().many(1), 0);
    }

    private static void farmBedBasketAndLotNumbers() {
        Station s = new Station();
        Checks.sentence("Promise 2", "Returns its number.");
        Checks.equal("the first FARM", s.farm(10), 0);
        for (int i = 1; i < 6; i++) {
            Checks.equal("the next FARM", s.farm(22), i);
        }
        Checks.sentence("Promise 7", "Returns its number.");
        Checks.equal("the first BED", s.bed(5), 0);
        for (int i = 1; i < 5; i++) {
            Checks.equal("the next BED", s.bed(40), i);
        }
        Checks.sentence("Promise 5", "Returns its number.");
        Checks.equal("the first BASKET", s.bring(5, 1, 0), 0);
        for (int i = 1; i < 20; i++) {
            Checks.equal("the next BASKET", s.bring(0, 60, 100), i);
        }
        Checks.sentence("Promise 13", "Returns the LOT.");
        for (int i = 0; i < 12; i++) {
            s.whole(i + 1, 4 - i % 4);
            Checks.equal("the next LOT", s.store(4 - i % 4), i);
        }
    }

    private static void labelAnswersThatBefore() {
        Checks.sentence("Promise 3", "Returns that before.");
        Station s = new Station();
        s.farm(10);
        s.farm(10);
        int[] days = {900, 900, 0, -1, -1, 1};
        int before = -1;
        for (int day : days) {
            Checks.equal("the LABEL before " + day, s.label(1, day), before);
            before = day;
        }
        Checks.equal("the LABEL of another FARM", s.label(0, 5), -1);
        Checks.refused("a LABEL of 901", Checks.ARGUMENT, s, t -> t.label(1, 901));
        Checks.equal("the LABEL before a refused one", s.label(1, 2), 1);
    }

    private static void labelOfNoneCertifiesNothing() {
        Checks.sentence("Promise 3", "its LABEL (NONE: not certified)");
        Station s = new Station();
        s.farm(10);
        s.label(0, 0);
        Checks.equal("a BASKET with a LABEL of 0, on DAY 0", s.ofBasket(s.bring(0, 1, 100), 5), 1);
        s.label(0, -1);
        Checks.equal("a BASKET with a LABEL of NONE, on DAY 0", s.ofBasket(s.bring(0, 1, 100), 5), 0);
        Checks.passLong(s, 20000, 0, 0);
        Checks.equal("a BASKET with a LABEL of NONE, on the last DAY", s.ofBasket(s.bring(0, 1, 100), 5), 0);
        s.label(0, 833);
        Checks.equal("a BASKET with the last DAY's LABEL", s.ofBasket(s.bring(0, 1, 100), 5), 1);
    }

    private static void priceAnswersThatBefore() {
        Checks.sentence("Promise 4", "Returns that before.");
        Station s = new Station();
        int before = 5;
        for (int price : new int[] {50, 50, 1, 1, 30}) {
            Checks.equal("the PRICE before " + price, s.price(price), before);
            before = price;
        }
        Checks.refused("a PRICE of 51", Checks.ARGUMENT, s, t -> t.price(51));
        Checks.equal("the PRICE before a refused one", s.price(2), 30);
    }

    private static void passAnswersHowManySpoilt() {
        Checks.sentence("Promise 6", "Returns how many BASKETS were SPOILT.");
        Station s = new Station();
        s.farm(10);
        s.bed(40);
        Checks.equal("without BASKETS", s.pass(100, 0, 0), 0);
        for (int i = 0; i < 5; i++) {
            s.bring(0, 10, 100);
            s.pass(1, 0, 0);
        }
        s.pulp(1, 0);
        s.whole(2, 0);
        // BASKETS 0, 3 and 4 come to an AGE of 25 in the 20th, 23rd and 24th HOUR from here.
        Checks.equal("in 19 HOURS", s.twin().pass(19, 0, 0), 0);
        Checks.equal("in 20 HOURS", s.twin().pass(20, 0, 0), 1);
        Checks.equal("in 22 HOURS", s.twin().pass(22, 0, 0), 1);
        Checks.equal("in 23 HOURS", s.twin().pass(23, 0, 0), 2);
        Checks.equal("in 24 HOURS", s.twin().pass(24, 0, 0), 3);
        Checks.equal("in 100 HOURS", s.twin().pass(100, 0, 0), 3);
        Checks.equal("in 20 HOURS ahead of the next", s.pass(20, 0, 0), 1);
        Checks.equal("in the next 100", s.pass(100, 0, 0), 2);
        Checks.equal("in 100 more", s.pass(100, 0, 0), 0);
    }

    private static void pulpAnswersKilosOfTheTank() {
        Checks.sentence("Promise 8", "Returns the KILOS of the TANK then.");
        Station s = new Station();
        s.farm(10);
        s.farm(11);
        Checks.equal("of the least BASKET", s.pulp(s.bring(0, 2, 100), 2), 1);
        Checks.equal("of another TANK", s.pulp(s.bring(0, 200, 100), 0), 100);
        Checks.equal("with what was there", s.pulp(s.bring(1, 200, 100), 2), 101);
        Checks.equal("with what was there of both", s.pulp(s.bring(0, 199, 100), 2), 200);
        Checks.equal("of a full TANK", s.pulp(s.bring(0, 200, 100), 2), 300);
    }

    private static void washAnswersItsKilos() {
        Checks.sentence("Promise 9", "Returns its KILOS.");
        for (boolean isHoney : new boolean[] {false, true}) {
            Station s = new Station();
            s.farm(10);
            s.bed(5);
            s.bed(25);
            s.pulp(s.bring(0, 2, 100), 0);
            for (int i = 0; i < 3; i++) {
                s.pulp(s.bring(0, 200, 100), 1);
            }
            Checks.equal("of one KILO", s.wash(0, 0, isHoney), 1);
            Checks.equal("of a full TANK", s.wash(1, 1, isHoney), 300);
        }
    }

    private static void wholeAnswersWhatTheBasketHeld() {
        Checks.sentence("Promise 10", "Returns the KILOS of the BED then (what the BASKET held).");
        int[][] kilosRipeAndHeld = {{1, 0, 1}, {2, 0, 1}, {200, 0, 100}, {200, 99, 199}, {200, 100, 200}};
        for (int[] row : kilosRipeAndHeld) {
            Station s = new Station();
            s.farm(10);
            s.bed(17);
            Checks.equal("of " + row[0] + ", " + row[1] + " ripe", s.whole(s.bring(0, row[0], row[1]), 0), row[2]);
            Checks.equal("on the BED of it", s.ofBed(0, 2), row[2]);
        }
    }

    private static void turnAnswersUnturnedBefore() {
        Checks.sentence("Promise 11", "Returns its UNTURNED before.");
        Station s = new Station();
        s.farm(10);
        s.bed(40);
        s.whole(s.bring(0, 30, 100), 0);
        Checks.equal("at once", s.turn(0), 0);
        s.pass(1, 0, 0);
        Checks.equal("after an HOUR", s.turn(0), 1);
        Checks.equal("at once again", s.turn(0), 0);
        s.pass(100, 0, 0);
        s.pass(100, 0, 0);
        Checks.equal("after 200 HOURS", s.turn(0), 200);
    }

    private static void coverAnswersWhetherItWas() {
        Checks.sentence("Promise 12", "Returns whether it was.");
        Station s = new Station();
        s.bed(40);
        s.bed(40);
        Checks.equal("at first", s.cover(1, true), false);
        Checks.equal("COVERED, and again", s.cover(1, true), true);
        Checks.equal("another BED", s.cover(0, true), false);
        Checks.equal("COVERED, and uncovered", s.cover(1, false), true);
        Checks.equal("uncovered, and again", s.cover(1, false), false);
        Checks.equal("uncovered, and COVERED", s.cover(1, true), false);
        Checks.equal("another BED, yet", s.cover(0, false), true);
    }

    private static void biasAnswersThatBefore() {
        Checks.sentence("Promise 14", "Returns that before.");
        Station s = new Station();
        for (int taster = 0; taster <= 2; taster++) {
            int of = taster;
            int before = 0;
            for (int bias : new int[] {-5, -5, 5, 5, 0, taster + 1}) {
                Checks.equal("the BIAS of " + of + " before " + bias, s.bias(of, bias), before);
                before = bias;
            }
            Checks.refused("a BIAS of 6", Checks.ARGUMENT, s, t -> t.bias(of, 6));
        }
        for (int taster = 0; taster <= 2; taster++) {
            Checks.equal("each its own", s.bias(taster, 0), taster + 1);
        }
    }

    private static void cupAnswersItsReading() {
        Checks.sentence("Promise 15", "Returns its reading.");
        Station s = new Station();
        s.farm(10);
        s.farm(22);
        s.bed(40);
        Checks.naturalLot(s, 0, 3, 0);
        Batch.natural().farm(1).store(s, 0);
        for (int bias = -5; bias <= 5; bias++) {
            s.bias(1, bias);
            Checks.equal("of the lowest SCORE", s.cup(0, 1), 40 + bias);
            Checks.equal("of the highest SCORE", s.cup(1, 1), 92 + bias);
            Checks.equal("the GRADE of it alone", s.ofLot(1, 9), 92 + bias);
        }
    }

    private static void blendAnswersKilosOfTheFirst() {
        Checks.sentence("Promise 16", "Returns the KILOS of the first one then.");
        Station s = new Station();
        s.farm(10);
        s.bed(40);
        for (int kilos : new int[] {3, 3, 200, 200, 198}) {
            Checks.naturalLot(s, 0, kilos, 0);
        }
        Checks.equal("of one and one", s.blend(1, 0), 2);
        Checks.equal("of 66 and 66", s.blend(2, 3), 132);
        Checks.equal("of 66 and what was blended", s.blend(4, 2), 198);
        Checks.equal("of 2 and 198", s.blend(1, 4), 200);
    }

    private static void sellAnswersWhatMoneyGets() {
        Checks.sentence("Promise 17", "Returns what MONEY gets.");
        // Of one KILO: the PRICE, and what the FARM does not get of it.
        int[][] priceAndRest = {{1, 1}, {2, 2}, {3, 2}, {4, 3}, {5, 3}, {199, 120}, {200, 120}};
        Station s = new Station();
        s.farm(10);
        s.bed(40);
        Checks.naturalLot(s, 0, 3, 0);
        s.cup(0, 0);
        for (int[] row : priceAndRest) {
            Station t = s.twin();
            Checks.equal("for " + row[0], t.sell(0, row[0], true), row[1]);
            Checks.equal("MONEY for " + row[0], t.many(6), -15 + row[1]);
            Checks.equal("COINS for " + row[0], t.many(15), 15 + row[0] - row[1]);
        }
    }
}
