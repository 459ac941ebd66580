/** A station with something of everything, so that whatever a refused call should change of it can be seen. */
final class Rich {
    /** FARM 1 is not certified; FARM 2 is none. */
    static final int FARMS = 2;
    static final int BASKETS = 15;
    static final int BEDS = 4;
    static final int LOTS = 5;

    static final int SPOILT = 5;
    static final int PULPED = 6;
    static final int DRIED_WHOLE = 10;
    static final int WAITING = 12;
    static final int WAITING_ONE_KILO = 13;
    static final int WAITING_200 = 14;

    /** 50 KILOS with POINTS of 25. */
    static final int YOUNG_TANK = 0;
    static final int FULL_TANK = 1;
    static final int EMPTY_TANK = 2;

    /** An AREA of 40. */
    static final int NATURAL_BED = 0;
    static final int WASHED_BED = 1;
    /** An AREA of 40. */
    static final int EMPTY_BED = 2;
    /** An AREA of 5, COVERED. */
    static final int SMALL_BED = 3;

    static final int GRADED = 0;
    static final int UNGRADED = 1;
    static final int SOLD = 2;
    static final int BLENDED_AWAY = 3;
    static final int HONEY = 4;

    private Rich() {
    }

    static Station station() {
        Station s = new Station();
        s.farm(12);
        s.farm(20);
        s.label(0, 3);
        s.price(7);
        s.bias(0, 2);
        s.bias(1, -3);
        s.bias(2, 5);
        for (int area : new int[] {40, 40, 40, 5}) {
            s.bed(area);
        }
        s.cover(SMALL_BED, true);
        store(s);
        fill(s);
        s.pass(5, 20, 3);
        return s;
    }

    private static void store(Station s) {
        Checks.naturalLot(s, 0, 30, 0);
        Checks.naturalLot(s, 1, 60, 0);
        Checks.naturalLot(s, 1, 90, 0);
        Checks.naturalLot(s, 0, 45, 0);
        Checks.wetLot(s, 0, 40, 0, 0, true);
        s.cup(GRADED, 0);
        s.cup(GRADED, 2);
        s.cup(SOLD, 1);
        s.sell(SOLD, 3, false);
        s.blend(UNGRADED, BLENDED_AWAY);
        s.cup(HONEY, 1);
    }

    private static void fill(Station s) {
        s.bring(1, 77, 66);
        s.pass(25, 11, 0);
        s.pulp(s.bring(0, 100, 100), YOUNG_TANK);
        for (int i = 0; i < 3; i++) {
            s.pulp(s.bring(i % 2, 200, 100), FULL_TANK);
        }
        s.whole(s.bring(1, 150, 90), NATURAL_BED);
        s.pulp(s.bring(0, 99, 88), EMPTY_TANK);
        s.wash(EMPTY_TANK, WASHED_BED, false);
        s.bring(0, 50, 80);
        s.bring(1, 1, 100);
        s.bring(1, 200, 100);
    }
}
