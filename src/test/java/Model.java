import java.util.ArrayList;
import java.util.List;
import java.util.TreeMap;

/** The document once more, written without regard to size: what CherryStation is compared with in long runs. */
final class Model {
    static final class Portion {
        long kilos;
        long certified;
    }

    static final class Blend {
        final TreeMap<Integer, Portion> byFarm = new TreeMap<>();
        long ripe;

        long kilos() {
            return byFarm.values().stream().mapToLong(p -> p.kilos).sum();
        }

        long certified() {
            return byFarm.values().stream().mapToLong(p -> p.certified).sum();
        }

        void come(int farm, long kilos, long certified) {
            Portion p = byFarm.computeIfAbsent(farm, f -> new Portion());
            p.kilos += kilos;
            p.certified += certified;
        }

        static Blend of(Blend a, Blend b) {
            Blend both = new Blend();
            both.ripe = Math.floorDiv(a.kilos() * a.ripe + b.kilos() * b.ripe, a.kilos() + b.kilos());
            a.byFarm.forEach((farm, p) -> both.come(farm, p.kilos, p.certified));
            b.byFarm.forEach((farm, p) -> both.come(farm, p.kilos, p.certified));
            return both;
        }
    }

    static final class FarmRow {
        long height;
        long label = -1;
        long coins;
        long ever;
    }

    static final class BasketRow {
        int farm;
        long holds;
        long ripe;
        boolean certified;
        int state;
        long age;
    }

    static final class TankRow {
        Blend mix;
        long age;
        long points;
    }

    static final class BedRow {
        long area;
        boolean covered;
        Blend mix;
        int method;
        long moisture;
        long unturned;
        long mould;
        long points;
    }

    static final class LotRow {
        Blend mix;
        int method;
        long points;
        long mould;
        long moisture;
        long age;
        boolean inStore = true;
        final TreeMap<Integer, Long> readings = new TreeMap<>();
    }

    final List<FarmRow> farms = new ArrayList<>();
    final List<BasketRow> baskets = new ArrayList<>();
    final List<TankRow> tanks = List.of(new TankRow(), new TankRow(), new TankRow());
    final List<BedRow> beds = new ArrayList<>();
    final List<LotRow> lots = new ArrayList<>();
    final long[] bias = new long[3];
    long hour;
    long money;
    long price = 5;
    long floaters;
    long sold;
    long lost;
    long water;

    static void index(boolean fine) {
        if (!fine) {
            throw new IndexOutOfBoundsException();
        }
    }

    static void argument(boolean fine) {
        if (!fine) {
            throw new IllegalArgumentException();
        }
    }

    static void state(boolean fine) {
        if (!fine) {
            throw new IllegalStateException();
        }
    }

    static boolean in(long v, long low, long high) {
        return low <= v && v <= high;
    }

    static <T> T get(List<T> rows, int i) {
        index(in(i, 0, rows.size() - 1));
        return rows.get(i);
    }

    long farm(int height) {
        argument(in(height, 10, 22));
        state(farms.size() < 6);
        FarmRow f = new FarmRow();
        f.height = height;
        farms.add(f);
        return farms.size() - 1;
    }

    long label(int farm, int day) {
        FarmRow f = get(farms, farm);
        argument(in(day, -1, 900));
        long old = f.label;
        f.label = day;
        return old;
    }

    long price(int p) {
        argument(in(p, 1, 50));
        long old = price;
        price = p;
        return old;
    }

    long bring(int farm, int kilos, int ripe) {
        FarmRow f = get(farms, farm);
        argument(in(kilos, 1, 200) && in(ripe, 0, 100));
        state(baskets.size() < 20);
        BasketRow b = new BasketRow();
        long out = Math.floorDiv((long) kilos * (100 - ripe), 200L);
        b.farm = farm;
        b.holds = kilos - out;
        b.ripe = ripe;
        b.certified = f.label >= Math.floorDiv(hour, 24L);
        floaters += out;
        f.ever += b.holds;
        f.coins += b.holds * price;
        money -= b.holds * price;
        baskets.add(b);
        return baskets.size() - 1;
    }

    long pass(int hours, int warmth, int rain) {
        argument(in(hours, 1, 100) && in(warmth, 0, 40) && in(rain, 0, 20));
        state(hour + hours <= 20000);
        long spoilt = 0;
        for (int i = 0; i < hours; i++) {
            hour++;
            for (BasketRow b : baskets) {
                if (b.state == 0 && ++b.age > 24) {
                    b.state = 3;
                    lost += b.holds;
                    spoilt++;
                }
            }
            for (TankRow t : tanks) {
                if (t.mix != null) {
                    t.age++;
                    t.points += Math.floorDiv((long) warmth, 4L) + Math.floorDiv(t.mix.kilos(), 100L);
                }
            }
            for (BedRow b : beds) {
                if (b.mix != null) {
                    weather(b, warmth, rain);
                }
            }
            if (Math.floorMod(hour, 24L) == 0) {
                lots.stream().filter(l -> l.inStore).forEach(l -> l.age++);
            }
        }
        return spoilt;
    }

    private void weather(BedRow b, int warmth, int rain) {
        if (rain != 0 && !b.covered) {
            b.moisture += rain;
            if (b.moisture > 600) {
                b.moisture = 600;
            }
        } else {
            b.moisture = dry(b, b.moisture, hour, warmth);
        }
        b.unturned++;
        if (b.unturned % 12 == 0 && b.moisture > 250) {
            b.mould++;
        }
    }

    private static long dry(BedRow b, long moisture, long hour, int warmth) {
        if (!in(Math.floorMod(hour, 24L), 8, 17)) {
            return moisture;
        }
        long less = Math.floorDiv(warmth * 10L, 10 + Math.floorDiv(b.mix.kilos(), b.area));
        if (b.covered) {
            less = Math.floorDiv(less, 4L);
        }
        return moisture - less < 80 ? 80 : moisture - less;
    }

    long bed(int area) {
        argument(in(area, 5, 40));
        state(beds.size() < 5);
        BedRow b = new BedRow();
        b.area = area;
        beds.add(b);
        return beds.size() - 1;
    }

    private static Blend portion(BasketRow b, long kilos) {
        Blend mix = new Blend();
        mix.ripe = b.ripe;
        mix.come(b.farm, kilos, b.certified ? kilos : 0);
        return mix;
    }

    long pulp(int basket, int tank) {
        index(in(basket, 0, baskets.size() - 1) && in(tank, 0, 2));
        BasketRow b = baskets.get(basket);
        TankRow t = tanks.get(tank);
        long half = Math.floorDiv(b.holds, 2L);
        state(b.state == 0);
        state(half > 0);
        state(t.mix == null || t.age <= 8 && t.mix.kilos() + half <= 300);
        b.state = 1;
        lost += b.holds - half;
        if (t.mix == null) {
            t.mix = portion(b, half);
            t.age = 0;
            t.points = 0;
        } else {
            t.mix = Blend.of(t.mix, portion(b, half));
        }
        return t.mix.kilos();
    }

    private static void lay(BedRow b, Blend mix, int method, long moisture, long points) {
        b.mix = mix;
        b.method = method;
        b.moisture = moisture;
        b.points = points;
        b.unturned = 0;
        b.mould = 0;
    }

    long wash(int tank, int bed, boolean honey) {
        index(in(tank, 0, 2) && in(bed, 0, beds.size() - 1));
        TankRow t = tanks.get(tank);
        BedRow b = beds.get(bed);
        state(t.mix != null);
        state(b.mix == null && 12 * b.area >= t.mix.kilos());
        state(!honey || t.points < 30);
        lay(b, t.mix, honey ? 1 : 0, honey ? 570 : 550, t.points);
        t.mix = null;
        if (!honey) {
            water += 3 * b.mix.kilos();
        }
        return b.mix.kilos();
    }

    long whole(int basket, int bed) {
        index(in(basket, 0, baskets.size() - 1) && in(bed, 0, beds.size() - 1));
        BasketRow b = baskets.get(basket);
        BedRow to = beds.get(bed);
        state(b.state == 0 && b.holds > 0);
        state(to.mix == null && 12 * to.area >= b.holds);
        b.state = 2;
        lay(to, portion(b, b.holds), 2, 600, 0);
        return b.holds;
    }

    long turn(int bed) {
        BedRow b = get(beds, bed);
        state(b.mix != null);
        long old = b.unturned;
        b.unturned = 0;
        return old;
    }

    long cover(int bed, boolean is) {
        BedRow b = get(beds, bed);
        boolean old = b.covered;
        b.covered = is;
        return old ? 1 : 0;
    }

    long store(int bed) {
        BedRow b = get(beds, bed);
        state(b.mix != null);
        LotRow l = new LotRow();
        l.mix = new Blend();
        l.mix.ripe = b.mix.ripe;
        long part = b.method == 2 ? 3 : 2;
        b.mix.byFarm.forEach((farm, p) -> l.mix.come(farm, p.kilos / part, p.certified / part));
        state(l.mix.kilos() > 0);
        state(lots.size() < 12);
        l.method = b.method;
        l.points = b.points;
        l.mould = b.mould;
        l.moisture = b.moisture;
        lost += b.mix.kilos() - l.mix.kilos();
        b.mix = null;
        lots.add(l);
        return lots.size() - 1;
    }

    long[] faults(LotRow l) {
        long ferment = 0;
        if (l.method == 0 && l.points < 60) {
            ferment = (60 - l.points) / 5;
        } else if (l.method == 0 && l.points > 100) {
            ferment = (l.points - 100) / 5;
        }
        long moisture = 0;
        if (l.moisture > 125) {
            moisture = (l.moisture - 125) / 10;
        } else if (l.moisture < 95) {
            moisture = (95 - l.moisture) / 5;
        }
        return new long[] {(100 - l.mix.ripe) / 5, ferment, l.mould * (l.method == 2 ? 2 : 1), moisture, l.age / 30};
    }

    long score(LotRow l) {
        if (l.mix.kilos() == 0) {
            return 0;
        }
        long heights = 0;
        for (int farm : l.mix.byFarm.keySet()) {
            heights += l.mix.byFarm.get(farm).kilos * farms.get(farm).height;
        }
        long score = 68 + Math.floorDiv(heights, l.mix.kilos()) + new long[] {0, 1, 2}[l.method];
        for (long fault : faults(l)) {
            score -= fault;
        }
        return Math.max(40, score);
    }

    long cause(LotRow l) {
        if (l.mix.kilos() == 0) {
            return 0;
        }
        long[] faults = faults(l);
        long most = 0;
        for (long fault : faults) {
            most = Math.max(most, fault);
        }
        for (int i = 0; i < faults.length; i++) {
            if (most > 0 && faults[i] == most) {
                return i + 1;
            }
        }
        return 0;
    }

    long grade(LotRow l) {
        if (l.readings.isEmpty()) {
            return -1;
        }
        long sum = l.readings.values().stream().mapToLong(v -> v).sum();
        return Math.floorDiv(sum, (long) l.readings.size());
    }

    long bias(int taster, int b) {
        index(in(taster, 0, 2));
        argument(in(b, -5, 5));
        long old = bias[taster];
        bias[taster] = b;
        return old;
    }

    long cup(int lot, int taster) {
        LotRow l = get(lots, lot);
        index(in(taster, 0, 2));
        state(l.inStore);
        l.readings.put(taster, score(l) + bias[taster]);
        return l.readings.get(taster);
    }

    static LotRow blended(LotRow a, LotRow b) {
        long all = a.mix.kilos() + b.mix.kilos();
        LotRow both = new LotRow();
        both.method = a.method;
        both.points = Math.floorDiv(a.mix.kilos() * a.points + b.mix.kilos() * b.points, all);
        both.moisture = Math.floorDiv(a.mix.kilos() * a.moisture + b.mix.kilos() * b.moisture, all);
        both.mould = Math.max(a.mould, b.mould);
        both.age = Math.max(a.age, b.age);
        both.mix = Blend.of(a.mix, b.mix);
        return both;
    }

    long blend(int lot, int other) {
        LotRow a = get(lots, lot);
        LotRow b = get(lots, other);
        argument(lot != other);
        state(a.inStore && b.inStore && a.method == b.method);
        lots.set(lot, blended(a, b));
        b.mix = new Blend();
        b.readings.clear();
        b.inStore = false;
        return lots.get(lot).mix.kilos();
    }

    private static long brings(Model m, LotRow l, int each, boolean labelled) {
        return l.mix.kilos() * each + (labelled && m.grade(l) >= 80 ? 10 * l.mix.certified() : 0);
    }

    private long share(LotRow l, int farm, int each, boolean labelled) {
        Portion p = l.mix.byFarm.get(farm);
        return p == null ? 0 : Math.floorDiv(brings(this, l, each, labelled) * p.kilos * 2, 5 * l.mix.kilos());
    }

    long sell(int lot, int each, boolean labelled) {
        LotRow l = get(lots, lot);
        argument(in(each, 1, 200));
        state(l.inStore && grade(l) != -1);
        long rest = brings(this, l, each, labelled);
        for (int i = 0; i < farms.size(); i++) {
            long share = share(l, i, each, labelled);
            farms.get(i).coins += share;
            rest -= share;
        }
        money += rest;
        sold += l.mix.kilos();
        l.inStore = false;
        return rest;
    }

    long wouldShare(int lot, int farm, int each, boolean labelled) {
        index(in(lot, 0, lots.size() - 1) && in(farm, 0, farms.size() - 1));
        argument(in(each, 1, 200));
        state(lots.get(lot).inStore && grade(lots.get(lot)) != -1);
        return share(lots.get(lot), farm, each, labelled);
    }

    private static long pick(int what, long... values) {
        argument(in(what, 0, values.length - 1));
        return values[what];
    }

    long ofFarm(int farm, int what) {
        FarmRow f = get(farms, farm);
        long stored = 0;
        for (int i = 0; i < lots.size(); i++) {
            stored += lots.get(i).inStore ? kilosOf(i, farm) : 0;
        }
        return pick(what, f.height, f.label, f.coins, f.ever, stored);
    }

    long ofBasket(int basket, int what) {
        BasketRow b = get(baskets, basket);
        return pick(what, b.farm, b.holds, b.ripe, b.state, b.age, b.certified ? 1 : 0);
    }

    long ofTank(int tank, int what) {
        TankRow t = get(tanks, tank);
        return t.mix == null ? pick(what, 0, 0, 0, 0, 0)
            : pick(what, t.mix.kilos(), t.mix.ripe, t.age, t.points, t.mix.certified());
    }

    long ofBed(int bed, int what) {
        BedRow b = get(beds, bed);
        long covered = b.covered ? 1 : 0;
        return b.mix == null ? pick(what, b.area, covered, 0, 0, 0, 0, 0, 0)
            : pick(what, b.area, covered, b.mix.kilos(), b.method, b.moisture, b.unturned, b.mould, b.points);
    }

    long ofLot(int lot, int what) {
        LotRow l = get(lots, lot);
        return pick(what, l.mix.kilos(), l.method, l.inStore ? 1 : 0, l.mix.certified(), l.mix.ripe, l.points, l.mould,
            l.moisture, l.age, grade(l), score(l), cause(l));
    }

    long kilosOf(int lot, int farm) {
        LotRow l = get(lots, lot);
        get(farms, farm);
        return l.mix.byFarm.containsKey(farm) ? l.mix.byFarm.get(farm).kilos : 0;
    }

    long many(int what) {
        return pick(what, hour, farms.size(), baskets.size(), beds.size(), lots.size(),
            lots.stream().filter(l -> l.inStore).count(), money, floaters,
            baskets.stream().filter(b -> b.state == 0).mapToLong(b -> b.holds).sum(),
            tanks.stream().filter(t -> t.mix != null).mapToLong(t -> t.mix.kilos()).sum(),
            beds.stream().filter(b -> b.mix != null).mapToLong(b -> b.mix.kilos()).sum(),
            lots.stream().filter(l -> l.inStore).mapToLong(l -> l.mix.kilos()).sum(),
            sold, lost, water, farms.stream().mapToLong(f -> f.coins).sum());
    }

    double meanScore() {
        long sum = 0;
        long kilos = 0;
        for (LotRow l : lots) {
            if (l.inStore) {
                sum += l.mix.kilos() * score(l);
                kilos += l.mix.kilos();
            }
        }
        return kilos == 0 ? 0 : (double) sum / kilos;
    }

    long readyIn(int tank, int warmth) {
        TankRow t = get(tanks, tank);
        argument(in(warmth, 0, 40));
        for (long n = 0, points = t.points; t.mix != null && n <= 200; n++) {
            if (points >= 60) {
                return n;
            }
            points += warmth / 4 + t.mix.kilos() / 100;
        }
        return -1;
    }

    long dryIn(int bed, int warmth) {
        BedRow b = get(beds, bed);
        argument(in(warmth, 0, 40));
        long moisture = b.moisture;
        for (int n = 0; b.mix != null && n <= 400; n++) {
            if (moisture <= 125) {
                return n;
            }
            moisture = dry(b, moisture, hour + n + 1, warmth);
        }
        return -1;
    }

    long bestBlend() {
        long best = -1;
        long most = -1;
        for (int a = lots.size() - 1; a >= 0; a--) {
            for (int b = lots.size() - 1; b > a; b--) {
                LotRow x = lots.get(a);
                LotRow y = lots.get(b);
                if (x.inStore && y.inStore && x.method == y.method && score(blended(x, y)) >= most) {
                    most = score(blended(x, y));
                    best = 20 * a + b;
                }
            }
        }
        return best;
    }

    long digest() {
        List<Long> all = new ArrayList<>();
        for (int w = 0; w < 16; w++) {
            all.add(many(w));
        }
        for (int i = 0; i < farms.size(); i++) {
            for (int w = 0; w < 5; w++) {
                all.add(ofFarm(i, w));
            }
        }
        for (int i = 0; i < baskets.size(); i++) {
            for (int w = 0; w < 6; w++) {
                all.add(ofBasket(i, w));
            }
        }
        for (int i = 0; i < 3; i++) {
            for (int w = 0; w < 5; w++) {
                all.add(ofTank(i, w));
            }
            all.add(readyIn(i, 20));
        }
        for (int i = 0; i < beds.size(); i++) {
            for (int w = 0; w < 8; w++) {
                all.add(ofBed(i, w));
            }
            all.add(dryIn(i, 25));
        }
        for (int i = 0; i < lots.size(); i++) {
            for (int w = 0; w < 12; w++) {
                all.add(ofLot(i, w));
            }
            for (int f = 0; f < farms.size(); f++) {
                all.add(kilosOf(i, f));
            }
        }
        all.add(bestBlend());
        long d = 7802;
        for (long v : all) {
            d = d * 31 + v;
        }
        return d;
    }
}
