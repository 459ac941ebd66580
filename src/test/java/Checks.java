/** What the tests of this project share: checks that print what is wrong, and short ways to a state. */
final class Checks {
    static final Class<IndexOutOfBoundsException> INDEX = IndexOutOfBoundsException.class;
    static final Class<IllegalArgumentException> ARGUMENT = IllegalArgumentException.class;
    static final Class<IllegalStateException> STATE = IllegalStateException.class;

    private static int checked = 0;
    private static int wrong = 0;

    private Checks() {
    }

    interface Call {
        void run();
    }

    static void equal(String what, long got, long want) {
        checked++;
        if (got != want) {
            complain(what + " answered " + got + ", due is " + want);
        }
    }

    static void equal(String what, boolean got, boolean want) {
        equal(what, got ? 1 : 0, want ? 1 : 0);
    }

    static void same(String what, double got, double want) {
        checked++;
        if (got != want) {
            complain(what + " answered " + got + ", due is " + want);
        }
    }

    /** The call throws exactly this kind, and the station's digest is the same before and after. */
    static void refused(String what, Class<? extends RuntimeException> kind, CherryStation station, Call call) {
        checked++;
        long before = station.digest();
        String got = "nothing";
        try {
            call.run();
        } catch (RuntimeException e) {
            got = e.getClass().getName();
        }
        if (!got.equals(kind.getName())) {
            complain(what + " threw " + got + ", due is " + kind.getName());
        }
        if (station.digest() != before) {
            complain(what + " threw, but changed the station");
        }
    }

    static void complain(String text) {
        wrong++;
        System.out.println("WRONG: " + text);
    }

    static void end() {
        System.out.println(checked + " checks, " + wrong + " wrong");
        if (wrong != 0 || checked == 0) {
            System.exit(1);
        }
    }

    static void passLong(CherryStation station, int hours, int warmth, int rain) {
        for (int left = hours; left > 0; left -= 100) {
            station.pass(Math.min(100, left), warmth, rain);
        }
    }

    /** Brings a ripe basket, dries it whole on the bed (which is empty), and stores it at once. */
    static int naturalLot(CherryStation station, int farm, int kilos, int bed) {
        station.whole(station.bring(farm, kilos, 100), bed);
        return station.store(bed);
    }

    /** Brings a ripe basket, pulps it into the tank, washes that onto the bed, and stores it at once. */
    static int wetLot(CherryStation station, int farm, int kilos, int tank, int bed, boolean isHoney) {
        station.pulp(station.bring(farm, kilos, 100), tank);
        station.wash(tank, bed, isHoney);
        return station.store(bed);
    }
}
