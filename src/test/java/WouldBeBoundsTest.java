import java.math.BigInteger;

/** Promises 26 to 30: what would be, at the bounds. */
public final class WouldBeBoundsTest {
    public static void main(String[] args) {
        readyInUpTo60Points();
        readyInIsNone();
        readyInBeyondTheLastHour();
        readyInIsAsHoursGoBy();
        dryInDownTo125();
        dryInIsNone();
        dryInOf400Hours();
        dryInCoveredOrNot();
        dryInBeyondTheLastHour();
        dryInIsAsHoursGoBy();
        bestBlendIsNoneWithoutOne();
        bestBlendNumbers();
        bestBlendIsByTheBlend();
        bestBlendByEachFault();
        bestBlendOfSeveral();
        wouldShareIsWhatTheFarmGets();
        digestStartsWith7802();
        digestWrapsAround();
        Checks.end();
    }

    private static Station small() {
        Station s = new Station();
        s.farm(12);
        s.bed(40);
        return s;
    }

    private static Station fermented(int points) {
        Station s = small();
        s.pulp(s.bring(0, 20, 100), 0);
        Batch.ferment(s, points);
        Checks.equal("POINTS", s.ofTank(0, 3), points);
        return s;
    }

    private static void readyInUpTo60Points() {
        Checks.sentence("Promise 26", "Returns in how many HOURS (also beyond HOUR 20000) its POINTS would be 60 or "
            + "more (0, if they are);");
        int[][] pointsWarmthAndHours = {{0, 4, 60}, {0, 7, 60}, {0, 8, 30}, {0, 39, 7}, {0, 40, 6}, {1, 4, 59}, {49, 40, 2},
            {50, 40, 1}, {58, 4, 2}, {58, 8, 1}, {59, 4, 1}, {59, 40, 1}, {60, 40, 0}, {60, 0, 0}, {61, 0, 0}, {130, 20, 0}};
        for (int[] row : pointsWarmthAndHours) {
            Checks.equal("POINTS " + row[0] + " with " + row[1], fermented(row[0]).readyIn(0, row[1]), row[2]);
        }
        int[][] kilosWarmthAndHours = {{99, 4, 60}, {100, 0, 60}, {100, 3, 60}, {100, 4, 30}, {199, 3, 60}, {200, 0, 30},
            {299, 0, 30}, {300, 0, 20}, {300, 40, 5}};
        for (int[] row : kilosWarmthAndHours) {
            Station s = small();
            for (int left = row[0]; left > 0; left -= 100) {
                s.pulp(s.bring(0, 2 * Math.min(100, left), 100), 2);
            }
            Checks.equal(row[0] + " KILOS with " + row[1], s.readyIn(2, row[1]), row[2]);
        }
    }

    private static void readyInIsNone() {
        Checks.sentence("Promise 26", "NONE, if it is empty, or not in 200.");
        Station s = small();
        for (int tank = 0; tank <= 2; tank++) {
            Checks.equal("an empty TANK", s.readyIn(tank, 40), -1);
        }
        for (int warmth = 0; warmth <= 3; warmth++) {
            Checks.equal("POINTS 0, for ever, with " + warmth, fermented(0).readyIn(0, warmth), -1);
            Checks.equal("POINTS 59, for ever, with " + warmth, fermented(59).readyIn(0, warmth), -1);
            Checks.equal("POINTS 60, for ever, with " + warmth, fermented(60).readyIn(0, warmth), 0);
        }
        Station full = small();
        full.pulp(full.bring(0, 198, 100), 0);
        Checks.equal("99 KILOS, for ever", full.readyIn(0, 3), -1);
        full.pulp(full.bring(0, 2, 100), 0);
        Checks.equal("100 KILOS, the slowest that come to it", full.readyIn(0, 3), 60);
        Station washed = fermented(70);
        washed.wash(0, 0, false);
        Checks.equal("one that was ready, and is empty", washed.readyIn(0, 40), -1);
    }

    private static void readyInBeyondTheLastHour() {
        Checks.sentence("Promise 26", "(also beyond HOUR 20000)");
        Station s = small();
        Checks.passLong(s, 19990, 0, 0);
        s.pulp(s.bring(0, 20, 100), 0);
        Checks.equal("from HOUR 19990", s.readyIn(0, 4), 60);
        s.pass(10, 4, 0);
        Checks.equal("from HOUR 20000, with POINTS of 10", s.readyIn(0, 4), 50);
        Checks.equal("from HOUR 20000, with 40", s.readyIn(0, 40), 5);
        Checks.equal("from HOUR 20000, for ever", s.readyIn(0, 3), -1);
    }

    private static void readyInIsAsHoursGoBy() {
        Checks.sentence("Promise 26", "Returns in how many HOURS (also beyond HOUR 20000) its POINTS would be 60 or "
            + "more");
        for (int warmth = 4; warmth <= 40; warmth += 3) {
            Station s = small();
            s.pulp(s.bring(0, 200, 100), 0);
            s.pulp(s.bring(0, 5 * warmth, 100), 0);
            int hours = s.readyIn(0, warmth);
            Station before = s.twin();
            before.pass(hours - 1, warmth, 0);
            Checks.equal("POINTS in an HOUR less, with " + warmth, before.ofTank(0, 3) < 60, true);
            s.pass(hours, warmth, 0);
            Checks.equal("POINTS in so many HOURS, with " + warmth, s.ofTank(0, 3) >= 60, true);
            Checks.equal("none more, with " + warmth, s.readyIn(0, 0), 0);
        }
    }

    /** A BED with 30 KILOS of this MOISTURE, on which a degree dries one in an HOUR, at this TIME. */
    private static Station drying(int moisture, int time) {
        Station s = small();
        Batch.natural().moisture(moisture).lay(s, 0);
        Checks.passLong(s, (time + 24 - s.many(0) % 24) % 24, 0, 0);
        Checks.equal("TIME", s.many(0) % 24, time);
        Checks.equal("MOISTURE", s.ofBed(0, 4), moisture);
        return s;
    }

    private static void dryInDownTo125() {
        Checks.sentence("Promise 27", "its MOISTURE would be 125 or less (0, if it is);");
        int[][] moistureTimeWarmthAndHours = {{126, 7, 1, 1}, {126, 7, 40, 1}, {127, 7, 1, 2}, {127, 7, 2, 1}, {165, 7, 40, 1},
            {166, 7, 40, 2}, {135, 7, 1, 10}, {136, 7, 1, 25}, {126, 6, 1, 2}, {126, 16, 1, 1}, {126, 17, 1, 15},
            {126, 23, 1, 9}, {126, 0, 1, 8}, {600, 7, 40, 26}, {125, 7, 0, 0}, {125, 17, 40, 0}, {124, 7, 0, 0}, {80, 7, 0, 0}};
        for (int[] row : moistureTimeWarmthAndHours) {
            Station s = drying(row[0], row[1]);
            Checks.equal("MOISTURE " + row[0] + " at " + row[1] + " with " + row[2], s.dryIn(0, row[2]), row[3]);
        }
    }

    private static void dryInIsNone() {
        Checks.sentence("Promise 27", "NONE, if it is empty, or not in 400.");
        Station s = small();
        Checks.equal("an empty BED", s.dryIn(0, 40), -1);
        s.whole(s.bring(0, 1, 100), 0);
        Checks.equal("without WARMTH", s.dryIn(0, 0), -1);
        Checks.equal("with too little", s.dryIn(0, 1), -1);
        Checks.equal("MOISTURE 126 without WARMTH", drying(126, 7).dryIn(0, 0), -1);
        Checks.equal("MOISTURE 125 without WARMTH", drying(125, 7).dryIn(0, 0), 0);
        Station stored = drying(125, 7);
        stored.store(0);
        Checks.equal("one that was dry, and is empty", stored.dryIn(0, 40), -1);
        Station deep = small();
        deep.pulp(deep.bring(0, 80, 100), 0);
        deep.wash(0, 0, false);
        Checks.equal("40 KILOS on 40, of which a degree dries none", deep.dryIn(0, 1), -1);
    }

    private static void dryInOf400Hours() {
        Checks.sentence("Promise 27", "or not in 400.");
        // From a TIME of 1 the 170th HOUR of a day is the 400th, with a TIME of 17.
        int[][] moistureTimeAndHours = {{295, 1, 400}, {296, 1, -1}, {294, 1, 399}, {295, 0, -1}, {294, 0, 400}, {295, 2, 399},
            {296, 2, -1}, {295, 7, 394}, {296, 7, -1}, {286, 16, 385}, {286, 15, 385}, {286, 17, 399}, {287, 17, 400},
            {288, 17, -1}};
        for (int[] row : moistureTimeAndHours) {
            Checks.equal("MOISTURE " + row[0] + " at " + row[1], drying(row[0], row[1]).dryIn(0, 1), row[2]);
        }
    }

    private static void dryInCoveredOrNot() {
        Checks.sentence("Promise 27", "Returns in how many HOURS without RAIN (also beyond HOUR 20000), COVERED or "
            + "not as it is");
        int[][] moistureWarmthAndHours = {{126, 4, 1}, {126, 3, -1}, {127, 4, 2}, {127, 8, 1}, {135, 40, 1}, {136, 40, 2},
            {225, 40, 10}, {226, 40, 25}, {125, 0, 0}, {126, 7, 1}, {127, 7, 2}};
        for (int[] row : moistureWarmthAndHours) {
            Station s = drying(row[0], 7);
            s.cover(0, true);
            Checks.equal("MOISTURE " + row[0] + ", COVERED, with " + row[1], s.dryIn(0, row[1]), row[2]);
        }
        Station s = drying(295, 1);
        s.cover(0, true);
        Checks.equal("COVERED, in 400", s.dryIn(0, 4), 400);
        s.cover(0, false);
        // 170 by 4 are 43 HOURS of days: four days of ten, and three.
        Checks.equal("uncovered", s.dryIn(0, 4), 4 * 24 + 9);
        Station more = drying(296, 1);
        more.cover(0, true);
        Checks.equal("COVERED, not in 400", more.dryIn(0, 4), -1);
    }

    private static void dryInBeyondTheLastHour() {
        Checks.sentence("Promise 27", "(also beyond HOUR 20000)");
        Station s = small();
        Batch.natural().moisture(295).lay(s, 0);
        Checks.passLong(s, 19999 - s.many(0), 0, 0);
        Checks.equal("from HOUR 19999, which has a TIME of 7", s.dryIn(0, 1), 394);
        s.pass(1, 1, 0);
        Checks.equal("from HOUR 20000", s.dryIn(0, 1), 393);
        Checks.equal("from HOUR 20000, with 40", s.dryIn(0, 40), 5);
        Checks.equal("from HOUR 20000, for ever", s.dryIn(0, 0), -1);
    }

    private static void dryInIsAsHoursGoBy() {
        Checks.sentence("Promise 27", "its MOISTURE would be 125 or less");
        for (int kilos = 1; kilos <= 180; kilos += 25) {
            Station s = small();
            s.pass(1 + kilos % 23, 0, 0);
            s.whole(s.bring(0, kilos, 100), 0);
            s.cover(0, kilos % 2 == 0);
            for (int warmth = 20; warmth <= 40; warmth += 10) {
                int hours = s.dryIn(0, warmth);
                String what = kilos + " KILOS with " + warmth;
                Checks.equal("MOISTURE in an HOUR less, " + what, moistureIn(s, hours == -1 ? 400 : hours - 1, warmth) > 125, true);
                Checks.equal("MOISTURE in so many, " + what, hours == -1 || moistureIn(s, hours, warmth) <= 125, true);
            }
        }
    }

    private static int moistureIn(Station s, int hours, int warmth) {
        Station twin = s.twin();
        Checks.passLong(twin, hours, warmth, 0);
        return twin.ofBed(0, 4);
    }

    private static void bestBlendIsNoneWithoutOne() {
        Checks.sentence("Promise 28", "NONE without one.");
        Station s = small();
        Checks.equal("without LOTS", s.bestBlend(), -1);
        Checks.naturalLot(s, 0, 30, 0);
        Checks.equal("of one", s.bestBlend(), -1);
        Checks.wetLot(s, 0, 40, 0, 0, true);
        Checks.wetLot(s, 0, 40, 0, 0, false);
        Checks.equal("of one of each METHOD", s.bestBlend(), -1);
        Station two = s.twin();
        Checks.wetLot(two, 0, 40, 0, 0, true);
        Checks.equal("of two of one METHOD", two.bestBlend(), 20 * 1 + 3);
        two.cup(3, 0);
        two.sell(3, 1, false);
        Checks.equal("of one of which the other is sold", two.bestBlend(), -1);
        Checks.naturalLot(s, 0, 30, 0);
        Checks.equal("of two NATURAL ones", s.bestBlend(), 20 * 0 + 3);
        s.blend(3, 0);
        Checks.equal("of one with which the other is blended", s.bestBlend(), -1);
    }

    private static void bestBlendNumbers() {
        Checks.sentence("Promise 28", "Returns 20 times the first LOT, and the other one (a greater number) added");
        Station s = new Station();
        s.farm(10);
        s.farm(22);
        s.bed(40);
        for (int i = 0; i < 10; i++) {
            Checks.naturalLot(s, 0, 30, 0);
        }
        Checks.equal("the smallest number, of ten alike", s.bestBlend(), 1);
        Batch.natural().farm(1).store(s, 0);
        Batch.natural().farm(1).store(s, 0);
        Checks.equal("the greatest number, of twelve", s.bestBlend(), 20 * 10 + 11);
        s.cup(11, 0);
        s.sell(11, 1, false);
        for (int i = 1; i < 10; i++) {
            s.cup(i, 0);
            s.sell(i, 1, false);
        }
        Checks.equal("the first and the last in store", s.bestBlend(), 10);
    }

    private static void bestBlendIsByTheBlend() {
        Checks.sentence("Promise 28", "of the BLEND of two LOTS in store of one METHOD that would have the greatest "
            + "SCORE");
        Station s = small();
        Batch.natural().ripe(90).store(s, 0);
        Batch.natural().moisture(80).store(s, 0);
        Batch.natural().moisture(140).store(s, 0);
        int[] scores = {80, 79, 81};
        for (int lot = 0; lot <= 2; lot++) {
            Checks.equal("the SCORE of LOT " + lot, s.ofLot(lot, 10), scores[lot]);
        }
        Checks.equal("two whose FAULTS go into each other", s.bestBlend(), 20 * 1 + 2);
        Station t = s.twin();
        t.blend(1, 2);
        Checks.equal("their SCORE then", t.ofLot(1, 10), 82);
        // By its KILOS a LOT of 1 spoils less of one of 13 than a LOT of 10 does.
        Station kilos = small();
        Batch.natural().ripe(60).kilos(39).store(kilos, 0);
        Batch.natural().ripe(60).kilos(3).store(kilos, 0);
        Batch.natural().kilos(39).store(kilos, 0);
        Checks.equal("by their KILOS", kilos.bestBlend(), 20 * 1 + 2);
        // Of HONEY a pair of the SCORE 81 is better than one of NATURAL ones that are not dry.
        Station methods = small();
        Checks.naturalLot(methods, 0, 30, 0);
        Checks.naturalLot(methods, 0, 30, 0);
        Batch.honey(0).store(methods, 0);
        Batch.honey(29).store(methods, 0);
        Checks.equal("of the better METHOD", methods.bestBlend(), 20 * 2 + 3);
    }

    /** The best blend of two LOTS of each: the worse ones come first, and the better ones in the order told. */
    private static int bestOf(Batch worse, Batch better, int daysBetween) {
        Station s = small();
        worse.store(s, 0);
        worse.store(s, 0);
        Checks.passLong(s, 24 * daysBetween, 0, 0);
        better.store(s, 0);
        better.store(s, 0);
        return s.bestBlend();
    }

    private static void bestBlendByEachFault() {
        Checks.sentence("Promise 28", "of the BLEND of two LOTS in store of one METHOD that would have the greatest "
            + "SCORE");
        int better = 20 * 2 + 3;
        // Of each the mean with a better LOT is a FAULT of 1 yet.
        Checks.equal("by RIPE", bestOf(Batch.natural().ripe(90), Batch.natural(), 0), better);
        Checks.equal("by POINTS, too few", bestOf(Batch.washed(50), Batch.washed(60), 0), better);
        Checks.equal("by POINTS, too many", bestOf(Batch.washed(150), Batch.washed(60), 0), better);
        Checks.equal("by POINTS that are no FAULT", bestOf(Batch.honey(0), Batch.honey(29), 0), 1);
        Checks.equal("by MOULD", bestOf(Batch.washed(60).mould(1), Batch.washed(60), 0), better);
        Checks.equal("by MOISTURE", bestOf(Batch.natural().moisture(165), Batch.natural(), 0), better);
        Checks.equal("by AGE", bestOf(Batch.natural(), Batch.natural(), 30), better);
        Checks.equal("by METHOD, HONEY", bestOf(Batch.washed(60), Batch.honey(0), 0), better);
        Checks.equal("by METHOD, NATURAL", bestOf(Batch.honey(0), Batch.natural(), 0), better);
        Checks.equal("by METHOD, the first", bestOf(Batch.natural(), Batch.honey(0), 0), 1);
        Checks.equal("by two FAULTS of one each, alike", bestOf(Batch.washed(55), Batch.washed(60).mould(1), 0), 1);
    }

    private static void bestBlendOfSeveral() {
        Checks.sentence("Promise 28", "of several the smallest number;");
        Station s = new Station();
        s.farm(10);
        s.farm(22);
        s.bed(40);
        int[] farms = {0, 1, 0, 1, 1, 1};
        for (int farm : farms) {
            Batch.natural().farm(farm).store(s, 0);
        }
        Checks.equal("of six pairs alike", s.bestBlend(), 20 * 1 + 3);
        s.cup(3, 0);
        s.sell(3, 1, false);
        Checks.equal("of three", s.bestBlend(), 20 * 1 + 4);
        s.blend(4, 1);
        Checks.equal("of one", s.bestBlend(), 20 * 4 + 5);
        Station least = small();
        for (int i = 0; i < 3; i++) {
            Checks.naturalLot(least, 0, 30, 0);
        }
        Checks.equal("of three of 40 at least", least.bestBlend(), 1);
    }

    private static void wouldShareIsWhatTheFarmGets() {
        Checks.sentence("Promise 29", "Returns what that FARM would get, if it was sold so.");
        Station s = new Station();
        for (int i = 0; i < 6; i++) {
            s.farm(17 + i);
            s.label(i, i % 2 == 0 ? 900 : -1);
        }
        s.bed(40);
        for (int i = 0; i < 5; i++) {
            s.pulp(s.bring(i, 4 * (i + 1), 100), 0);
        }
        s.wash(0, 0, true);
        Batch.dry(s, 0, 110);
        s.store(0);
        s.cup(0, 0);
        Checks.equal("the GRADE is 80 or more", s.ofLot(0, 9) >= 80, true);
        for (int price : new int[] {1, 2, 3, 199, 200}) {
            for (boolean isLabelled : new boolean[] {false, true}) {
                Station sold = s.twin();
                sold.sell(0, price, isLabelled);
                int brings = 15 * price + (isLabelled ? 10 * 9 : 0);
                for (int farm = 0; farm < 6; farm++) {
                    int share = farm == 5 ? 0 : brings * (farm + 1) * 2 / (5 * 15);
                    String what = "FARM " + farm + " for " + price + ", LABELLED " + isLabelled;
                    Checks.equal(what, s.wouldShare(0, farm, price, isLabelled), share);
                    Checks.equal(what + ", as it is sold", sold.ofFarm(farm, 2) - s.ofFarm(farm, 2), share);
                }
            }
        }
    }

    /** The sum that the document tells, in numbers without an end, and what a 64-bit integer keeps of it. */
    private static final class Sum {
        private BigInteger d = BigInteger.valueOf(7802);

        void add(long v) {
            d = d.multiply(BigInteger.valueOf(31)).add(BigInteger.valueOf(v));
        }
    }

    private static Sum sumOf(Station s) {
        Asker asker = new Asker(s);
        Sum sum = new Sum();
        for (int what = 0; what <= 15; what++) {
            sum.add(asker.next().many(what));
        }
        int farms = asker.next().many(1);
        addRows(sum, farms, 4, (i, what) -> asker.next().ofFarm(i, what));
        addRows(sum, asker.next().many(2), 5, (i, what) -> asker.next().ofBasket(i, what));
        for (int i = 0; i <= 2; i++) {
            int tank = i;
            addRows(sum, 1, 4, (one, what) -> asker.next().ofTank(tank, what));
            sum.add(asker.next().readyIn(tank, 20));
        }
        int beds = asker.next().many(3);
        for (int i = 0; i < beds; i++) {
            int bed = i;
            addRows(sum, 1, 7, (one, what) -> asker.next().ofBed(bed, what));
            sum.add(asker.next().dryIn(bed, 25));
        }
        int lots = asker.next().many(4);
        for (int i = 0; i < lots; i++) {
            int lot = i;
            addRows(sum, 1, 11, (one, what) -> asker.next().ofLot(lot, what));
            addRows(sum, 1, farms - 1, (one, farm) -> asker.next().kilosOf(lot, farm));
        }
        sum.add(asker.next().bestBlend());
        return sum;
    }

    private interface Part {
        int of(int row, int what);
    }

    private static void addRows(Sum sum, int rows, int last, Part part) {
        for (int i = 0; i < rows; i++) {
            for (int what = 0; what <= last; what++) {
                sum.add(part.of(i, what));
            }
        }
    }

    private static void digestStartsWith7802() {
        Checks.sentence("Promise 30", "A number d starts with 7802; then d becomes d * 31 + v, which wraps around as "
            + "a 64-bit integer, for each v in this order:");
        Station s = new Station();
        long d = 7802;
        // 16 of many() and five of each TANK are 0; readyIn() and bestBlend() are NONE.
        for (int i = 0; i < 16; i++) {
            d = d * 31;
        }
        for (int tank = 0; tank <= 2; tank++) {
            d = d * 31 * 31 * 31 * 31 * 31;
            d = d * 31 - 1;
        }
        d = d * 31 - 1;
        Checks.equal("a new station's", s.digest(), d);
        Checks.equal("the same again", s.digest(), d);
        s.farm(10);
        Checks.equal("another one with a FARM", s.digest() != d, true);
    }

    private static void digestWrapsAround() {
        Checks.sentence("Promise 30", "which wraps around as a 64-bit integer, for each v in this order: many() of 0 "
            + "to 15; FARM by FARM ofFarm() of 0 to 4; BASKET by BASKET ofBasket() of 0 to 5; TANK by TANK ofTank() "
            + "of 0 to 4, readyIn() of 20; BED by BED ofBed() of 0 to 7, dryIn() of 25; LOT by LOT ofLot() of 0 to "
            + "11, FARM by FARM kilosOf(); bestBlend().");
        Station[] stations = {new Station(), small(), Rich.station(), full()};
        for (int i = 0; i < stations.length; i++) {
            BigInteger whole = sumOf(stations[i]).d;
            Checks.equal("more than 64 bits, station " + i, whole.bitLength() > 64, true);
            Checks.equal("what is left of them, station " + i, stations[i].digest(), whole.longValue());
        }
    }

    /** All FARMS, BASKETS, BEDS and LOTS, and the last HOUR. */
    private static Station full() {
        Station s = new Station();
        for (int i = 0; i < 6; i++) {
            s.farm(10 + i);
            s.label(i, 100 * i);
        }
        for (int i = 0; i < 5; i++) {
            s.bed(36 + i);
        }
        for (int i = 0; i < 12; i++) {
            Checks.naturalLot(s, i % 6, 30 + i, i % 5);
        }
        for (int i = 0; i < 12; i += 3) {
            s.cup(i, i % 2);
        }
        s.sell(0, 7, true);
        s.blend(2, 1);
        for (int tank = 0; tank <= 2; tank++) {
            s.pulp(s.bring(tank, 100 + tank, 90), tank);
        }
        for (int bed = 0; bed < 5; bed++) {
            s.whole(s.bring(bed, 90, 80), bed);
        }
        s.cover(3, true);
        Checks.passLong(s, 20000, 25, 0);
        return s;
    }
}
