import java.util.Random;

/** Runs of 512 calls, some of them wrong, on CherryStation and on the Model: each answer must be the same. */
public final class RandomRunsTest {
    private static final int RUNS = 1500;
    private static final int CALLS = 512;
    private static final int[] EDGES = {-2, -1, 0, 1, 2, 3, 5, 6, 9, 12, 20, 22, 40, 41, 100, 101, 200, 201, 900, 901,
        Integer.MIN_VALUE, Integer.MAX_VALUE};
    private static final int KINDS = 29;

    private interface Answer {
        long get();
    }

    private final Random random;
    private final CherryStation station = new CherryStation();
    private final Model model = new Model();
    private final StringBuilder told = new StringBuilder();
    // A run is mostly of calls that the station takes, or of any calls at all.
    private final int wildOf100;
    // So that lots age and beds dry in some runs, and baskets don't spoil at once in others.
    private final int mostHours;

    private RandomRunsTest(long seed) {
        random = new Random(seed);
        wildOf100 = new int[] {0, 2, 10}[random.nextInt(3)];
        mostHours = new int[] {3, 12, 100}[random.nextInt(3)];
    }

    public static void main(String[] args) {
        int[] answered = new int[KINDS];
        int[] refused = new int[KINDS];
        for (int run = 0; run < RUNS; run++) {
            new RandomRunsTest(run).play(run, answered, refused);
        }
        for (int kind = 0; kind < KINDS; kind++) {
            if (answered[kind] == 0) {
                Checks.complain("no call of kind " + kind + " was answered in all runs");
            }
        }
        Checks.end();
    }

    private void play(int run, int[] answered, int[] refused) {
        for (int i = 0; i < CALLS; i++) {
            int kind = i < 8 ? (i < 4 ? 0 : 5) : kind();
            int before = told.length();
            Answer[] both = call(kind);
            String call = told.substring(before);
            String got = outcome(both[0]);
            String due = outcome(both[1]);
            told.append(" = ").append(due).append('\n');
            if (due.startsWith("java")) {
                refused[kind]++;
            } else {
                answered[kind]++;
            }
            Checks.equal("comparing", 0, 0);
            if (!got.equals(due)) {
                Checks.complain("run " + run + ", call " + i + ": " + call + " answered " + got + ", due is " + due);
                System.out.println(told);
                return;
            }
        }
    }

    private int kind() {
        int[] often = {3, 3, 3, 4, 4, 4, 4, 4, 6, 6, 6, 7, 7, 8, 8, 9, 9, 11, 11, 13, 13, 14, 28};
        return random.nextInt(2) == 0 ? often[random.nextInt(often.length)] : random.nextInt(KINDS);
    }

    private static String outcome(Answer answer) {
        try {
            return Long.toString(answer.get());
        } catch (RuntimeException e) {
            return e.getClass().getName();
        }
    }

    /** Mostly a number from low to high, sometimes just outside, or far away. */
    private int number(int low, int high) {
        int value;
        if (random.nextInt(100) < wildOf100) {
            value = EDGES[random.nextInt(EDGES.length)];
        } else if (random.nextInt(100) < wildOf100) {
            value = random.nextBoolean() ? low - 1 : high + 1;
        } else if (random.nextInt(8) == 0) {
            value = random.nextBoolean() ? low : high;
        } else {
            value = low + random.nextInt(high - low + 1);
        }
        told.append(value).append(' ');
        return value;
    }

    private int one(int count) {
        return number(0, Math.max(0, count - 1));
    }

    private boolean flag() {
        boolean value = random.nextBoolean();
        told.append(value).append(' ');
        return value;
    }

    private static Answer[] both(Answer station, Answer model) {
        return new Answer[] {station, model};
    }

    private int farms() {
        return one(model.farms.size());
    }

    private int baskets() {
        // Younger ones are those that wait more often.
        int count = model.baskets.size();
        return random.nextInt(3) > 0 && count > 3 ? number(count - 3, count - 1) : one(count);
    }

    private int beds() {
        return one(model.beds.size());
    }

    private int lots() {
        return one(model.lots.size());
    }

    private Answer[] call(int kind) {
        told.append(kind).append(": ");
        switch (kind) {
            case 0: { int a = number(10, 22); return both(() -> station.farm(a), () -> model.farm(a)); }
            case 1: {
                int a = farms(), b = random.nextInt(3) == 0 ? number(-1, 900) : number(-1, (int) model.hour / 24 + 3);
                return both(() -> station.label(a, b), () -> model.label(a, b));
            }
            case 2: { int a = number(1, 50); return both(() -> station.price(a), () -> model.price(a)); }
            case 3: {
                if (random.nextInt(4) > 0 && model.hour < 2000 && model.baskets.size() > model.hour / 24 + 6) {
                    return call(4);
                }
                int a = farms(), b = random.nextInt(6) == 0 ? number(1, 4) : number(1, 200), c = number(0, 100);
                return both(() -> station.bring(a, b, c), () -> model.bring(a, b, c));
            }
            case 4: {
                int a = number(1, mostHours), b = number(0, 40), c = random.nextInt(3) == 0 ? number(0, 20) : number(0, 0);
                return both(() -> station.pass(a, b, c), () -> model.pass(a, b, c));
            }
            case 5: { int a = number(5, 40); return both(() -> station.bed(a), () -> model.bed(a)); }
            case 6: {
                int a = baskets(), b = number(0, 2);
                return both(() -> station.pulp(a, b), () -> model.pulp(a, b));
            }
            case 7: {
                int a = number(0, 2), b = beds();
                boolean c = flag();
                return both(() -> station.wash(a, b, c), () -> model.wash(a, b, c));
            }
            case 8: {
                int a = baskets(), b = beds();
                return both(() -> station.whole(a, b), () -> model.whole(a, b));
            }
            case 9: { int a = beds(); return both(() -> station.turn(a), () -> model.turn(a)); }
            case 10: {
                int a = beds();
                boolean b = flag();
                return both(() -> station.cover(a, b) ? 1 : 0, () -> model.cover(a, b));
            }
            case 11: { int a = beds(); return both(() -> station.store(a), () -> model.store(a)); }
            case 12: {
                int a = number(0, 2), b = number(-5, 5);
                return both(() -> station.bias(a, b), () -> model.bias(a, b));
            }
            case 13: {
                int a = lots(), b = number(0, 2);
                return both(() -> station.cup(a, b), () -> model.cup(a, b));
            }
            case 14: {
                if (random.nextInt(5) > 0) {
                    return call(26);
                }
                int a = lots(), b = lots();
                return both(() -> station.blend(a, b), () -> model.blend(a, b));
            }
            default: return ask(kind);
        }
    }

    private Answer[] ask(int kind) {
        switch (kind) {
            case 15: {
                int a = lots(), b = number(1, 200);
                boolean c = flag();
                return both(() -> station.sell(a, b, c), () -> model.sell(a, b, c));
            }
            case 16: {
                int a = farms(), b = number(0, 4);
                return both(() -> station.ofFarm(a, b), () -> model.ofFarm(a, b));
            }
            case 17: {
                int a = baskets(), b = number(0, 5);
                return both(() -> station.ofBasket(a, b), () -> model.ofBasket(a, b));
            }
            case 18: {
                int a = number(0, 2), b = number(0, 4);
                return both(() -> station.ofTank(a, b), () -> model.ofTank(a, b));
            }
            case 19: {
                int a = beds(), b = number(0, 7);
                return both(() -> station.ofBed(a, b), () -> model.ofBed(a, b));
            }
            case 20: {
                int a = lots(), b = number(0, 11);
                return both(() -> station.ofLot(a, b), () -> model.ofLot(a, b));
            }
            case 21: {
                int a = lots(), b = farms();
                return both(() -> station.kilosOf(a, b), () -> model.kilosOf(a, b));
            }
            case 22: { int a = number(0, 15); return both(() -> station.many(a), () -> model.many(a)); }
            case 23: {
                return both(() -> Double.doubleToRawLongBits(station.meanScore()),
                    () -> Double.doubleToRawLongBits(model.meanScore()));
            }
            case 24: {
                int a = number(0, 2), b = number(0, 40);
                return both(() -> station.readyIn(a, b), () -> model.readyIn(a, b));
            }
            case 25: {
                int a = beds(), b = number(0, 40);
                return both(() -> station.dryIn(a, b), () -> model.dryIn(a, b));
            }
            case 26: return both(() -> station.bestBlend(), () -> model.bestBlend());
            case 27: {
                int a = lots(), b = farms(), c = number(1, 200);
                boolean d = flag();
                return both(() -> station.wouldShare(a, b, c, d), () -> model.wouldShare(a, b, c, d));
            }
            default: return both(() -> station.digest(), () -> model.digest());
        }
    }
}
