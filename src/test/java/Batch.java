/** A lot in the making: kilos of one farm, with the ripe, points, mould and moisture that are told, and no fault else. */
final class Batch {
    private static final int WASHED = 0;
    private static final int HONEY = 1;
    private static final int NATURAL = 2;

    private final int method;
    private final int points;
    private int farm = 0;
    private int kilos = 30;
    private int ripe = 100;
    private int mould = 0;
    private int moisture = 110;

    private Batch(int method, int points) {
        this.method = method;
        this.points = points;
    }

    static Batch washed(int points) {
        return new Batch(WASHED, points);
    }

    static Batch honey(int points) {
        return new Batch(HONEY, points);
    }

    static Batch natural() {
        return new Batch(NATURAL, 0);
    }

    Batch farm(int number) {
        farm = number;
        return this;
    }

    /** The kilos on the bed: fewer than its area, so that it dries by its warmth in each hour of a day. */
    Batch kilos(int onBed) {
        kilos = onBed;
        return this;
    }

    Batch ripe(int share) {
        ripe = share;
        return this;
    }

    Batch mould(int faults) {
        mould = faults;
        return this;
    }

    Batch moisture(int left) {
        moisture = left;
        return this;
    }

    /** Brings it, lays it onto the bed (tank 0 and the bed are empty), and lets it mould and dry. */
    void lay(Station s, int bed) {
        if (method == NATURAL) {
            s.whole(bring(s, farm, kilos, ripe), bed);
        } else {
            s.pulp(bring(s, farm, 2 * kilos, ripe), 0);
            ferment(s, points);
            s.wash(0, bed, method == HONEY);
        }
        if (mould > 0) {
            Checks.passLong(s, 12 * mould, 0, 0);
        }
        dry(s, bed, moisture);
        Checks.equal("a batch's points", s.ofBed(bed, 7), points);
        Checks.equal("a batch's mould", s.ofBed(bed, 6), mould);
        Checks.equal("a batch's moisture", s.ofBed(bed, 4), moisture);
    }

    /** As lay, and stores it, which gives its number. */
    int store(Station s, int bed) {
        lay(s, bed);
        return s.store(bed);
    }

    /** Brings a basket that holds so much without its floaters, which gives its number. */
    static int bring(Station s, int farm, int held, int ripe) {
        int brought = held;
        while (brought - brought * (100 - ripe) / 200 < held) {
            brought++;
        }
        return s.bring(farm, brought, ripe);
    }

    /** Lets a tank of less than 100 kilos come to so many points, from none. */
    static void ferment(Station s, int points) {
        if (points >= 10) {
            Checks.passLong(s, points / 10, 40, 0);
        }
        if (points % 10 > 0) {
            s.pass(points % 10, 4, 0);
        }
    }

    /** Dries the bed by day, turning it in time, so that no mould comes. */
    static void dry(Station s, int bed, int moisture) {
        int left = s.ofBed(bed, 4) - moisture;
        while (left > 0) {
            s.turn(bed);
            int time = s.many(0) % 24;
            if (time < 7 || time > 16) {
                s.pass(Math.min(11, (31 - time) % 24), 0, 0);
            } else if (left < 40) {
                s.pass(1, left, 0);
                left = 0;
            } else {
                int hours = Math.min(17 - time, left / 40);
                s.pass(hours, 40, 0);
                left -= 40 * hours;
            }
        }
    }
}
