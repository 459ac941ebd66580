import java.util.List;

/** What the tests of this project share: checks that print what is wrong, and short ways to a state. */
final class Checks {
    static final Class<IndexOutOfBoundsException> INDEX = IndexOutOfBoundsException.class;
    static final Class<IllegalArgumentException> ARGUMENT = IllegalArgumentException.class;
    static final Class<IllegalStateException> STATE = IllegalStateException.class;

    private static final String NOTHING = "nothing";

    private static int checked = 0;
    private static int wrong = 0;
    private static String held = "";

    private Checks() {
    }

    interface Call {
        void on(Station station);
    }

    interface CallWith {
        void on(Station station, int value);
    }

    /**
     * The checks from here on hold this sentence of the document. SentencesTest compares its words with the document,
     * and asks for one of these for each sentence there with a number, a bound, something empty or an exception.
     */
    static void sentence(String place, String words) {
        held = place + ", \"" + words + "\": ";
    }

    static void equal(String what, long got, long want) {
        checked++;
        if (got != want) {
            complain(what + " answered " + got + ", due is " + want);
        }
    }

    static void equal(String what, boolean got, boolean want) {
        equal(what, got ? 1 : 0, want ? 1 : 0);
    }

    static void same(String what, double got, double want) {
        checked++;
        if (got != want) {
            complain(what + " answered " + got + ", due is " + want);
        }
    }

    /** The name of what the call throws. */
    static String outcome(Station station, Call call) {
        try {
            call.on(station);
            return NOTHING;
        } catch (RuntimeException e) {
            return e.getClass().getName();
        }
    }

    /** The call throws exactly this kind, and nothing that can be seen of the station is changed. */
    static void refused(String what, Class<? extends RuntimeException> kind, Station station, Call call) {
        checked++;
        String got = outcome(station.twin(), call);
        if (!got.equals(kind.getName())) {
            complain(what + " threw " + got + ", due is " + kind.getName());
        }
        unchanged(what, station, call);
        // The station itself goes on with a refused call behind it, which it may not notice.
        outcome(station, call);
    }

    static void unchanged(String what, Station station, Call call) {
        checked++;
        List<String> changed = Seen.changedBy(station, call);
        if (!changed.isEmpty()) {
            complain(what + " changed " + changed.size() + " answers of the station: " + changed.get(0));
        }
    }

    /** The call is taken by a twin of the station. */
    static void taken(String what, Station station, Call call) {
        checked++;
        String got = outcome(station.twin(), call);
        if (!got.equals(NOTHING)) {
            complain(what + " threw " + got + ", but is to be taken");
        }
    }

    /** The values low and high are taken; those next to them outside, and the farthest, are refused with this kind. */
    static void range(String what, Class<? extends RuntimeException> kind, Station station, int low, int high,
            CallWith call) {
        taken(what + " of " + low, station, s -> call.on(s, low));
        taken(what + " of " + high, station, s -> call.on(s, high));
        refusedOutside(what, kind, station, low, high, call);
    }

    /** As range, where no value from low to high could be taken (or where it is told elsewhere that they are). */
    static void refusedOutside(String what, Class<? extends RuntimeException> kind, Station station, int low, int high,
            CallWith call) {
        for (int value : new int[] {low - 1, high + 1, Integer.MIN_VALUE, Integer.MAX_VALUE}) {
            refused(what + " of " + value, kind, station, s -> call.on(s, value));
        }
    }

    static void complain(String text) {
        wrong++;
        System.out.println("WRONG: " + held + text);
    }

    static void end() {
        System.out.println(checked + " checks, " + wrong + " wrong");
        if (wrong != 0 || checked == 0) {
            System.exit(1);
        }
    }

    static void passLong(Station station, int hours, int warmth, int rain) {
        for (int left = hours; left > 0; left -= 100) {
            station.pass(Math.min(100, left), warmth, rain);
        }
    }

    /** Brings a ripe basket, dries it whole on the bed (which is empty), and stores it at once. */
    static int naturalLot(Station station, int farm, int kilos, int bed) {
        station.whole(station.bring(farm, kilos, 100), bed);
        return station.store(bed);
    }

    /** Brings a ripe basket, pulps it into the tank, washes that onto the bed, and stores it at once. */
    static int wetLot(Station station, int farm, int kilos, int tank, int bed, boolean isHoney) {
        station.pulp(station.bring(farm, kilos, 100), tank);
        station.wash(tank, bed, isHoney);
        return station.store(bed);
    }
}
