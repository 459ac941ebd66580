/** Promises 18 to 29: each sentence there that says when a question throws, and what is asked just inside. */
public final class RefusedQuestionsTest {
    public static void main(String[] args) {
        ofFarm();
        ofBasket();
        ofTank();
        ofBed();
        ofLot();
        kilosOf();
        many();
        readyIn();
        dryIn();
        wouldShareIndex();
        wouldShareArgument();
        wouldShareState();
        questionsOfAFullStation();
        questionsChangeNothing();
        Checks.end();
    }

    private interface Of {
        int ask(Station station, int row, int what);
    }

    /** A question that is asked of the rows 0 to lastRow, and is of the numbers low to high. */
    private static void question(String place, String name, String noRow, String noWhat, int lastRow, int low, int high, Of of) {
        Station s = Rich.station();
        Checks.sentence(place, noRow);
        Checks.range(name, Checks.INDEX, s, 0, lastRow, (t, row) -> of.ask(t, row, low));
        for (int what : new int[] {low - 1, low, high, high + 1}) {
            Checks.refusedOutside(name + " of " + what, Checks.INDEX, s, 0, lastRow, (t, row) -> of.ask(t, row, what));
        }
        Checks.sentence(place, noWhat);
        for (int row = 0; row <= lastRow; row++) {
            int from = row;
            Checks.range(name + " from " + from, Checks.ARGUMENT, s, low, high, (t, what) -> of.ask(t, from, what));
        }
    }

    private static void none(String name, Of of) {
        Station none = new Station();
        for (int row : new int[] {0, -1, 1}) {
            Checks.refused(name + " of a new station", Checks.INDEX, none, t -> of.ask(t, row, 0));
            Checks.refused(name + " of a new station, wrong", Checks.INDEX, none, t -> of.ask(t, row, -1));
        }
    }

    private static void ofFarm() {
        question("Promise 18", "ofFarm", "Throws `IndexOutOfBoundsException` if there is no such FARM",
            "Throws `IllegalArgumentException` if what is not 0 to 4", Rich.FARMS - 1, 0, 4, Station::ofFarm);
        none("ofFarm", Station::ofFarm);
    }

    private static void ofBasket() {
        question("Promise 19", "ofBasket", "Throws `IndexOutOfBoundsException` if there is no such BASKET",
            "Throws `IllegalArgumentException` if what is not 0 to 5", Rich.BASKETS - 1, 0, 5, Station::ofBasket);
        none("ofBasket", Station::ofBasket);
    }

    private static void ofTank() {
        question("Promise 20", "ofTank", "Throws `IndexOutOfBoundsException` if tank is not 0 to 2",
            "Throws `IllegalArgumentException` if what is not 0 to 4", 2, 0, 4, Station::ofTank);
        Station s = new Station();
        Checks.range("ofTank of a new station", Checks.INDEX, s, 0, 2, (t, tank) -> t.ofTank(tank, 0));
        Checks.range("ofTank of an empty tank", Checks.ARGUMENT, s, 0, 4, (t, what) -> t.ofTank(2, what));
    }

    private static void ofBed() {
        question("Promise 21", "ofBed", "Throws `IndexOutOfBoundsException` if there is no such BED",
            "Throws `IllegalArgumentException` if what is not 0 to 7", Rich.BEDS - 1, 0, 7, Station::ofBed);
        none("ofBed", Station::ofBed);
    }

    private static void ofLot() {
        question("Promise 22", "ofLot", "Throws `IndexOutOfBoundsException` if there is no such LOT",
            "Throws `IllegalArgumentException` if what is not 0 to 11", Rich.LOTS - 1, 0, 11, Station::ofLot);
        none("ofLot", Station::ofLot);
    }

    private static void kilosOf() {
        Checks.sentence("Promise 23", "Throws `IndexOutOfBoundsException` if there is no such LOT, or FARM");
        Station s = Rich.station();
        for (int farm = -1; farm <= Rich.FARMS; farm++) {
            int of = farm;
            Checks.refusedOutside("kilosOf farm " + of, Checks.INDEX, s, 0, Rich.LOTS - 1, (t, lot) -> t.kilosOf(lot, of));
        }
        for (int lot = 0; lot < Rich.LOTS; lot++) {
            int in = lot;
            Checks.range("kilosOf lot " + in, Checks.INDEX, s, 0, Rich.FARMS - 1, (t, farm) -> t.kilosOf(in, farm));
        }
        none("kilosOf", Station::kilosOf);
        Station noLots = new Station();
        noLots.farm(10);
        Checks.refused("kilosOf without lots", Checks.INDEX, noLots, t -> t.kilosOf(0, 0));
    }

    private static void many() {
        Checks.sentence("Promise 24", "Throws `IllegalArgumentException` if what is not 0 to 15");
        Checks.range("many", Checks.ARGUMENT, new Station(), 0, 15, (t, what) -> t.many(what));
        Checks.range("many", Checks.ARGUMENT, Rich.station(), 0, 15, (t, what) -> t.many(what));
    }

    private static void readyIn() {
        question("Promise 26", "readyIn", "Throws `IndexOutOfBoundsException` if tank is not 0 to 2",
            "Throws `IllegalArgumentException` if warmth is not 0 to 40", 2, 0, 40, Station::readyIn);
        Checks.range("readyIn of an empty tank", Checks.ARGUMENT, new Station(), 0, 40, (t, warmth) -> t.readyIn(1, warmth));
    }

    private static void dryIn() {
        question("Promise 27", "dryIn", "Throws `IndexOutOfBoundsException` if there is no such BED",
            "Throws `IllegalArgumentException` if warmth is not 0 to 40", Rich.BEDS - 1, 0, 40, Station::dryIn);
        none("dryIn", Station::dryIn);
    }

    private static void wouldShareIndex() {
        Checks.sentence("Promise 29", "Throws `IndexOutOfBoundsException` if there is no such LOT, or FARM");
        Station s = Rich.station();
        for (int price : new int[] {0, 1, 200, 201}) {
            for (int farm = -1; farm <= Rich.FARMS; farm++) {
                int of = farm;
                Checks.refusedOutside("share of farm " + of + " for " + price, Checks.INDEX, s, 0, Rich.LOTS - 1,
                    (t, lot) -> t.wouldShare(lot, of, price, true));
            }
            for (int lot = 0; lot < Rich.LOTS; lot++) {
                int in = lot;
                Checks.refusedOutside("share in lot " + in + " for " + price, Checks.INDEX, s, 0, Rich.FARMS - 1,
                    (t, farm) -> t.wouldShare(in, farm, price, true));
            }
        }
        Checks.range("share in the first lot", Checks.INDEX, s, 0, 1, (t, farm) -> t.wouldShare(0, farm, 1, true));
        Checks.range("share in the last lot", Checks.INDEX, s, 0, 1, (t, farm) -> t.wouldShare(Rich.LOTS - 1, farm, 1, true));
        Checks.refused("share of nothing", Checks.INDEX, new Station(), t -> t.wouldShare(0, 0, 1, true));
    }

    private static void wouldShareArgument() {
        Checks.sentence("Promise 29", "Throws `IllegalArgumentException` if price is not 1 to 200");
        Station s = Rich.station();
        for (boolean isLabelled : new boolean[] {false, true}) {
            Checks.range("share", Checks.ARGUMENT, s, 1, 200, (t, price) -> t.wouldShare(Rich.GRADED, 1, price, isLabelled));
            for (int lot : new int[] {Rich.UNGRADED, Rich.SOLD, Rich.BLENDED_AWAY}) {
                Checks.refusedOutside("share of lot " + lot, Checks.ARGUMENT, s, 1, 200,
                    (t, price) -> t.wouldShare(lot, 0, price, isLabelled));
            }
        }
    }

    private static void wouldShareState() {
        Checks.sentence("Promise 29", "Throws `IllegalStateException` if it is not in store, or has no GRADE");
        Station s = Rich.station();
        for (boolean isLabelled : new boolean[] {false, true}) {
            for (int farm = 0; farm < Rich.FARMS; farm++) {
                int of = farm;
                Checks.refused("without a grade", Checks.STATE, s, t -> t.wouldShare(Rich.UNGRADED, of, 1, isLabelled));
                Checks.refused("sold", Checks.STATE, s, t -> t.wouldShare(Rich.SOLD, of, 200, isLabelled));
                Checks.refused("blended away", Checks.STATE, s, t -> t.wouldShare(Rich.BLENDED_AWAY, of, 1, isLabelled));
                Checks.taken("with a grade", s, t -> t.wouldShare(Rich.HONEY, of, 200, isLabelled));
            }
        }
    }

    private static void questionsOfAFullStation() {
        Station s = new Station();
        for (int i = 0; i < 6; i++) {
            s.farm(10);
        }
        for (int i = 0; i < 5; i++) {
            s.bed(40);
        }
        for (int i = 0; i < 12; i++) {
            Checks.naturalLot(s, 5, 30, 4);
        }
        for (int i = 12; i < 20; i++) {
            s.bring(5, 30, 100);
        }
        s.cup(11, 0);
        Checks.sentence("Promise 18", "Throws `IndexOutOfBoundsException` if there is no such FARM");
        Checks.range("ofFarm of six", Checks.INDEX, s, 0, 5, (t, farm) -> t.ofFarm(farm, 0));
        Checks.sentence("Promise 19", "Throws `IndexOutOfBoundsException` if there is no such BASKET");
        Checks.range("ofBasket of twenty", Checks.INDEX, s, 0, 19, (t, basket) -> t.ofBasket(basket, 0));
        Checks.sentence("Promise 21", "Throws `IndexOutOfBoundsException` if there is no such BED");
        Checks.range("ofBed of five", Checks.INDEX, s, 0, 4, (t, bed) -> t.ofBed(bed, 0));
        Checks.sentence("Promise 22", "Throws `IndexOutOfBoundsException` if there is no such LOT");
        Checks.range("ofLot of twelve", Checks.INDEX, s, 0, 11, (t, lot) -> t.ofLot(lot, 0));
        Checks.sentence("Promise 23", "Throws `IndexOutOfBoundsException` if there is no such LOT, or FARM");
        Checks.range("kilosOf twelve lots", Checks.INDEX, s, 0, 11, (t, lot) -> t.kilosOf(lot, 5));
        Checks.range("kilosOf six farms", Checks.INDEX, s, 0, 5, (t, farm) -> t.kilosOf(11, farm));
        Checks.sentence("Promise 27", "Throws `IndexOutOfBoundsException` if there is no such BED");
        Checks.range("dryIn of five", Checks.INDEX, s, 0, 4, (t, bed) -> t.dryIn(bed, 20));
        Checks.sentence("Promise 29", "Throws `IndexOutOfBoundsException` if there is no such LOT, or FARM");
        Checks.range("share of six farms", Checks.INDEX, s, 0, 5, (t, farm) -> t.wouldShare(11, farm, 1, false));
        Checks.refusedOutside("share of twelve lots", Checks.INDEX, s, 0, 11, (t, lot) -> t.wouldShare(lot, 5, 1, false));
    }

    private static void questionsChangeNothing() {
        Checks.sentence("Section 4", "Ahead of the calls `readyIn`, `dryIn`, `bestBlend`, `wouldShare`, `digest` the "
            + "interface says: ---- what would be (nothing is changed).");
        Station s = Rich.station();
        s.store(Rich.NATURAL_BED);
        for (int warmth = 0; warmth <= 40; warmth += 20) {
            int of = warmth;
            Checks.unchanged("readyIn " + of, s, t -> t.readyIn(Rich.YOUNG_TANK, of));
            Checks.unchanged("dryIn " + of, s, t -> t.dryIn(Rich.WASHED_BED, of));
        }
        Checks.equal("there is a best blend", s.bestBlend(), 20 * Rich.GRADED + Rich.UNGRADED);
        Checks.unchanged("bestBlend", s, Station::bestBlend);
        Checks.unchanged("wouldShare", s, t -> t.wouldShare(Rich.GRADED, 0, 200, true));
        Checks.unchanged("digest", s, Station::digest);
        Checks.unchanged("meanScore", s, Station::meanScore);
        Checks.unchanged("readyIn of an empty one", s, t -> t.readyIn(Rich.EMPTY_TANK, 40));
        Checks.unchanged("dryIn of an empty one", s, t -> t.dryIn(Rich.SMALL_BED, 40));
        s.pass(40, 40, 0);
        Checks.equal("a tank is ready", s.readyIn(Rich.YOUNG_TANK, 0), 0);
        Checks.unchanged("readyIn of one that is ready", s, t -> t.readyIn(Rich.YOUNG_TANK, 0));
        Checks.equal("a bed is dry", s.dryIn(Rich.WASHED_BED, 0), 0);
        Checks.unchanged("dryIn of one that is dry", s, t -> t.dryIn(Rich.WASHED_BED, 0));
    }
}
