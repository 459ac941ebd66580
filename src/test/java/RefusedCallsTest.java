/**
 * Promises 2 to 17: each sentence there that says when a call throws, the first values that are refused and the last
 * that are taken. That nothing has changed then is compared by every asking method (see Checks.refused).
 */
public final class RefusedCallsTest {
    public static void main(String[] args) {
        farm();
        label();
        price();
        bringIndex();
        bringArgument();
        bringState();
        passArgument();
        passState();
        bed();
        pulpIndex();
        pulpState();
        washIndex();
        washState();
        wholeIndex();
        wholeState();
        turn();
        cover();
        storeIndex();
        storeState();
        bias();
        cup();
        blendIndex();
        blendArgument();
        blendState();
        sellIndex();
        sellArgument();
        sellState();
        namedFirst();
        Checks.end();
    }

    private static Station withFarms(int count) {
        Station s = new Station();
        for (int i = 0; i < count; i++) {
            s.farm(12);
        }
        return s;
    }

    /** Twenty BASKETS, of which some WAIT. */
    private static Station withAllBaskets() {
        Station s = Rich.station();
        for (int i = Rich.BASKETS; i < 20; i++) {
            s.bring(0, 10, 100);
        }
        return s;
    }

    /** Twelve LOTS, and a BED with 30 KILOS. */
    private static Station withAllLots() {
        Station s = Rich.station();
        s.store(Rich.NATURAL_BED);
        s.store(Rich.WASHED_BED);
        for (int i = Rich.LOTS + 2; i < 12; i++) {
            Checks.naturalLot(s, 0, 30, Rich.EMPTY_BED);
        }
        // All 20 BASKETS are brought by now, of which this one WAITS.
        s.whole(Rich.WAITING, Rich.EMPTY_BED);
        return s;
    }

    private static Station withoutFullTank() {
        Station s = Rich.station();
        s.wash(Rich.FULL_TANK, Rich.EMPTY_BED, false);
        return s;
    }

    private static void farm() {
        Checks.sentence("Promise 2", "Throws `IllegalArgumentException` if height is not 10 to 22");
        Checks.range("farm", Checks.ARGUMENT, new Station(), 10, 22, (t, height) -> t.farm(height));
        Checks.range("farm", Checks.ARGUMENT, Rich.station(), 10, 22, (t, height) -> t.farm(height));
        Checks.refusedOutside("a seventh farm", Checks.ARGUMENT, withFarms(6), 10, 22, (t, height) -> t.farm(height));
        Checks.sentence("Promise 2", "Throws `IllegalStateException` if there are 6");
        Checks.taken("a sixth farm", withFarms(5), t -> t.farm(10));
        Station full = withFarms(6);
        for (int height = 10; height <= 22; height += 12) {
            int of = height;
            Checks.refused("a seventh farm of " + of, Checks.STATE, full, t -> t.farm(of));
        }
    }

    private static void label() {
        Checks.sentence("Promise 3", "Throws `IndexOutOfBoundsException` if there is no such FARM");
        Station s = Rich.station();
        Checks.refusedOutside("label without farms", Checks.INDEX, new Station(), 0, -1, (t, farm) -> t.label(farm, 1));
        Checks.range("label", Checks.INDEX, s, 0, 1, (t, farm) -> t.label(farm, 1));
        Checks.range("label of six farms", Checks.INDEX, withFarms(6), 0, 5, (t, farm) -> t.label(farm, 1));
        for (int day : new int[] {-2, 901}) {
            Checks.refusedOutside("label to " + day, Checks.INDEX, s, 0, 1, (t, farm) -> t.label(farm, day));
        }
        Checks.sentence("Promise 3", "Throws `IllegalArgumentException` if day is not NONE to 900");
        for (int farm = 0; farm <= 1; farm++) {
            int of = farm;
            Checks.range("label of farm " + of, Checks.ARGUMENT, s, -1, 900, (t, day) -> t.label(of, day));
        }
    }

    private static void price() {
        Checks.sentence("Promise 4", "Throws `IllegalArgumentException` if price is not 1 to 50");
        Checks.range("price", Checks.ARGUMENT, new Station(), 1, 50, (t, price) -> t.price(price));
        Checks.range("price", Checks.ARGUMENT, Rich.station(), 1, 50, (t, price) -> t.price(price));
    }

    private static void bringIndex() {
        Checks.sentence("Promise 5", "Throws `IndexOutOfBoundsException` if there is no such FARM");
        Station s = Rich.station();
        Station full = withAllBaskets();
        Checks.refusedOutside("bring without farms", Checks.INDEX, new Station(), 0, -1, (t, farm) -> t.bring(farm, 9, 9));
        Checks.range("bring of farm", Checks.INDEX, s, 0, 1, (t, farm) -> t.bring(farm, 9, 9));
        Checks.range("bring of six farms", Checks.INDEX, withFarms(6), 0, 5, (t, farm) -> t.bring(farm, 9, 9));
        Checks.refusedOutside("bring of no kilos", Checks.INDEX, s, 0, 1, (t, farm) -> t.bring(farm, 0, 9));
        Checks.refusedOutside("bring of ripe 101", Checks.INDEX, s, 0, 1, (t, farm) -> t.bring(farm, 9, 101));
        Checks.refusedOutside("a 21st", Checks.INDEX, full, 0, 1, (t, farm) -> t.bring(farm, 9, 9));
        Checks.refusedOutside("a 21st of no kilos", Checks.INDEX, full, 0, 1, (t, farm) -> t.bring(farm, 0, 9));
    }

    private static void bringArgument() {
        Checks.sentence("Promise 5", "Throws `IllegalArgumentException` if kilos is not 1 to 200, or ripe not 0 to "
            + "100");
        Station s = Rich.station();
        Station full = withAllBaskets();
        for (int ripe : new int[] {0, 50, 100}) {
            Checks.range("bring kilos, ripe " + ripe, Checks.ARGUMENT, s, 1, 200, (t, kilos) -> t.bring(1, kilos, ripe));
        }
        for (int kilos : new int[] {1, 50, 200}) {
            Checks.range("bring " + kilos + ", ripe", Checks.ARGUMENT, s, 0, 100, (t, ripe) -> t.bring(1, kilos, ripe));
        }
        Checks.refused("bring both wrong", Checks.ARGUMENT, s, t -> t.bring(0, 201, -1));
        Checks.refusedOutside("a 21st of kilos", Checks.ARGUMENT, full, 1, 200, (t, kilos) -> t.bring(1, kilos, 50));
        Checks.refusedOutside("a 21st of ripe", Checks.ARGUMENT, full, 0, 100, (t, ripe) -> t.bring(1, 50, ripe));
    }

    private static void bringState() {
        Checks.sentence("Promise 5", "Throws `IllegalStateException` if there were 20");
        Station s = withFarms(1);
        for (int i = 0; i < 19; i++) {
            s.bring(0, 10, 100);
        }
        Checks.taken("a 20th", s, t -> t.bring(0, 1, 0));
        s.bring(0, 10, 100);
        Checks.refused("a 21st", Checks.STATE, s, t -> t.bring(0, 1, 0));
        s.pass(25, 0, 0);
        Checks.refused("a 21st, as all are spoilt", Checks.STATE, s, t -> t.bring(0, 1, 0));
        Checks.refused("a 21st of the most kilos", Checks.STATE, withAllBaskets(), t -> t.bring(1, 200, 100));
    }

    private static void passArgument() {
        Checks.sentence("Promise 6", "Throws `IllegalArgumentException` if hours is not 1 to 100, warmth not 0 to "
            + "40, or rain not 0 to 20");
        Station[] stations = {new Station(), Rich.station()};
        for (Station s : stations) {
            Checks.range("pass hours", Checks.ARGUMENT, s, 1, 100, (t, hours) -> t.pass(hours, 20, 10));
            Checks.range("pass warmth", Checks.ARGUMENT, s, 0, 40, (t, warmth) -> t.pass(3, warmth, 10));
            Checks.range("pass rain", Checks.ARGUMENT, s, 0, 20, (t, rain) -> t.pass(3, 20, rain));
            Checks.refused("pass all wrong", Checks.ARGUMENT, s, t -> t.pass(0, -1, -1));
            Checks.refused("pass too warm and too wet", Checks.ARGUMENT, s, t -> t.pass(1, 41, 21));
        }
        Station late = new Station();
        Checks.passLong(late, 20000, 0, 0);
        Checks.refusedOutside("pass hours, at the end", Checks.ARGUMENT, late, 1, 100, (t, hours) -> t.pass(hours, 20, 10));
        Checks.refusedOutside("pass warmth, at the end", Checks.ARGUMENT, late, 0, 40, (t, warmth) -> t.pass(3, warmth, 10));
        Checks.refusedOutside("pass rain, at the end", Checks.ARGUMENT, late, 0, 20, (t, rain) -> t.pass(3, 20, rain));
    }

    private static void passState() {
        Checks.sentence("Promise 6", "Throws `IllegalStateException` if HOUR would be above 20000");
        Station s = Rich.station();
        int left = 20000 - s.many(0);
        Checks.passLong(s, left - 100, 20, 1);
        Checks.taken("100 hours up to 20000", s, t -> t.pass(100, 20, 1));
        s.pass(1, 20, 1);
        Checks.refused("100 hours up to 20001", Checks.STATE, s, t -> t.pass(100, 20, 1));
        Checks.taken("99 hours up to 20000", s, t -> t.pass(99, 20, 1));
        s.pass(98, 20, 1);
        Checks.refused("2 hours up to 20001", Checks.STATE, s, t -> t.pass(2, 20, 1));
        Checks.taken("one hour up to 20000", s, t -> t.pass(1, 20, 1));
        s.pass(1, 20, 1);
        for (int hours : new int[] {1, 2, 100}) {
            Checks.refused(hours + " hours from 20000", Checks.STATE, s, t -> t.pass(hours, 0, 0));
        }
    }

    private static void bed() {
        Checks.sentence("Promise 7", "Throws `IllegalArgumentException` if area is not 5 to 40");
        Checks.range("bed", Checks.ARGUMENT, new Station(), 5, 40, (t, area) -> t.bed(area));
        Station s = Rich.station();
        Checks.range("a fifth bed", Checks.ARGUMENT, s, 5, 40, (t, area) -> t.bed(area));
        s.bed(20);
        Checks.refusedOutside("a sixth bed", Checks.ARGUMENT, s, 5, 40, (t, area) -> t.bed(area));
        Checks.sentence("Promise 7", "Throws `IllegalStateException` if there are 5");
        Checks.refused("a sixth bed of 5", Checks.STATE, s, t -> t.bed(5));
        Checks.refused("a sixth bed of 40", Checks.STATE, s, t -> t.bed(40));
    }

    private static void pulpIndex() {
        Checks.sentence("Promise 8", "Throws `IndexOutOfBoundsException` if there is no such BASKET, or tank is not "
            + "0 to 2");
        Station s = Rich.station();
        Checks.refusedOutside("pulp without baskets", Checks.INDEX, new Station(), 0, -1, (t, basket) -> t.pulp(basket, 0));
        Checks.range("pulp into tank", Checks.INDEX, withoutFullTank(), 0, 2, (t, tank) -> t.pulp(Rich.WAITING, tank));
        Checks.taken("the last basket", s, t -> t.pulp(Rich.BASKETS - 1, Rich.EMPTY_TANK));
        for (int tank = 0; tank <= 2; tank++) {
            int into = tank;
            Checks.refusedOutside("pulp a basket into tank " + into, Checks.INDEX, s, 0, Rich.BASKETS - 1,
                (t, basket) -> t.pulp(basket, into));
        }
        int[] baskets = {Rich.WAITING, Rich.WAITING_ONE_KILO, Rich.SPOILT, Rich.PULPED, Rich.DRIED_WHOLE, -1, Rich.BASKETS};
        for (int basket : baskets) {
            Checks.refusedOutside("pulp basket " + basket + " into tank", Checks.INDEX, s, 0, 2,
                (t, tank) -> t.pulp(basket, tank));
        }
    }

    private static void pulpState() {
        Checks.sentence("Promise 8", "Throws `IllegalStateException` if the BASKET does not WAIT, the half of it is "
            + "nothing, or the TANK does not take it");
        Station s = Rich.station();
        for (int basket : new int[] {Rich.PULPED, Rich.DRIED_WHOLE, Rich.SPOILT, Rich.WAITING_ONE_KILO}) {
            for (int tank = 0; tank <= 2; tank++) {
                int into = tank;
                Checks.refused("basket " + basket + " into tank " + into, Checks.STATE, s, t -> t.pulp(basket, into));
            }
        }
        Checks.refused("one that waits, into a full tank", Checks.STATE, s, t -> t.pulp(Rich.WAITING, Rich.FULL_TANK));
        Checks.taken("one that waits, into a young tank", s, t -> t.pulp(Rich.WAITING, Rich.YOUNG_TANK));
        s.pass(3, 0, 0);
        Checks.taken("into a tank of an age of 8", s, t -> t.pulp(Rich.WAITING, Rich.YOUNG_TANK));
        s.pass(1, 0, 0);
        Checks.refused("into a tank of an age of 9", Checks.STATE, s, t -> t.pulp(Rich.WAITING, Rich.YOUNG_TANK));
        Checks.taken("into an empty tank", s, t -> t.pulp(Rich.WAITING, Rich.EMPTY_TANK));
        int two = s.bring(0, 2, 100);
        Checks.taken("half of two kilos", s, t -> t.pulp(two, Rich.EMPTY_TANK));
        Checks.refused("half of two kilos, into a full tank", Checks.STATE, s, t -> t.pulp(two, Rich.FULL_TANK));
    }

    private static void washIndex() {
        Checks.sentence("Promise 9", "Throws `IndexOutOfBoundsException` if tank is not 0 to 2, or there is no such "
            + "BED");
        Station s = Rich.station();
        Station none = withFarms(1);
        none.pulp(none.bring(0, 50, 100), 0);
        for (boolean isHoney : new boolean[] {false, true}) {
            Checks.refusedOutside("wash without beds", Checks.INDEX, none, 0, -1, (t, bed) -> t.wash(0, bed, isHoney));
            for (int bed = -1; bed <= Rich.BEDS; bed++) {
                int onto = bed;
                Checks.refusedOutside("wash a tank onto bed " + onto, Checks.INDEX, s, 0, 2,
                    (t, tank) -> t.wash(tank, onto, isHoney));
            }
            for (int tank = -1; tank <= 3; tank++) {
                int from = tank;
                Checks.refusedOutside("wash tank " + from + " onto a bed", Checks.INDEX, s, 0, Rich.BEDS - 1,
                    (t, bed) -> t.wash(from, bed, isHoney));
            }
        }
        Checks.taken("the first tank", s, t -> t.wash(Rich.YOUNG_TANK, Rich.EMPTY_BED, true));
        s.pulp(Rich.WAITING, Rich.EMPTY_TANK);
        Checks.taken("the last tank, onto the last bed", s, t -> t.wash(Rich.EMPTY_TANK, Rich.SMALL_BED, true));
        s.store(Rich.NATURAL_BED);
        Checks.taken("the last tank, onto the first bed", s, t -> t.wash(Rich.EMPTY_TANK, Rich.NATURAL_BED, true));
    }

    private static void washState() {
        Checks.sentence("Promise 9", "Throws `IllegalStateException` if the TANK is empty, the BED is not, has no "
            + "room for it, or it can be no HONEY");
        Station s = Rich.station();
        for (boolean isHoney : new boolean[] {false, true}) {
            for (int bed = 0; bed < Rich.BEDS; bed++) {
                int onto = bed;
                Checks.refused("an empty tank onto bed " + onto, Checks.STATE, s,
                    t -> t.wash(Rich.EMPTY_TANK, onto, isHoney));
            }
            Checks.refused("onto a natural bed", Checks.STATE, s, t -> t.wash(Rich.YOUNG_TANK, Rich.NATURAL_BED, isHoney));
            Checks.refused("onto a washed bed", Checks.STATE, s, t -> t.wash(Rich.YOUNG_TANK, Rich.WASHED_BED, isHoney));
            Checks.refused("300 on a small bed", Checks.STATE, s, t -> t.wash(Rich.FULL_TANK, Rich.SMALL_BED, isHoney));
            Checks.taken("50 on a small bed", s, t -> t.wash(Rich.YOUNG_TANK, Rich.SMALL_BED, isHoney));
        }
        Checks.equal("points of a young tank", s.ofTank(Rich.YOUNG_TANK, 3), 25);
        s.pass(4, 4, 0);
        Checks.taken("honey of points 29", s, t -> t.wash(Rich.YOUNG_TANK, Rich.EMPTY_BED, true));
        s.pass(1, 4, 0);
        Checks.refused("honey of points 30", Checks.STATE, s, t -> t.wash(Rich.YOUNG_TANK, Rich.EMPTY_BED, true));
        Checks.taken("washed ones of points 30", s, t -> t.wash(Rich.YOUNG_TANK, Rich.EMPTY_BED, false));
        s.pulp(Rich.WAITING, Rich.EMPTY_TANK);
        s.pulp(s.bring(0, 78, 100), Rich.EMPTY_TANK);
        Checks.refused("61 on a small bed", Checks.STATE, s, t -> t.wash(Rich.EMPTY_TANK, Rich.SMALL_BED, false));
        Checks.equal("61 is what is there", s.ofTank(Rich.EMPTY_TANK, 0), 61);
    }

    private static void wholeIndex() {
        Checks.sentence("Promise 10", "Throws `IndexOutOfBoundsException` if there is no such BASKET, or BED");
        Station s = Rich.station();
        Station none = withFarms(1);
        none.bring(0, 50, 100);
        Checks.refusedOutside("whole without beds", Checks.INDEX, none, 0, -1, (t, bed) -> t.whole(0, bed));
        Station noBaskets = new Station();
        noBaskets.bed(40);
        Checks.refusedOutside("whole without baskets", Checks.INDEX, noBaskets, 0, -1, (t, basket) -> t.whole(basket, 0));
        for (int bed = -1; bed <= Rich.BEDS; bed++) {
            int onto = bed;
            Checks.refusedOutside("whole a basket onto bed " + onto, Checks.INDEX, s, 0, Rich.BASKETS - 1,
                (t, basket) -> t.whole(basket, onto));
        }
        for (int basket : new int[] {Rich.WAITING, Rich.SPOILT, Rich.PULPED, Rich.DRIED_WHOLE, Rich.WAITING_200, -1}) {
            Checks.refusedOutside("whole basket " + basket + " onto a bed", Checks.INDEX, s, 0, Rich.BEDS - 1,
                (t, bed) -> t.whole(basket, bed));
        }
        Checks.taken("the last basket", s, t -> t.whole(Rich.BASKETS - 1, Rich.EMPTY_BED));
        Checks.taken("the last bed", s, t -> t.whole(Rich.WAITING, Rich.BEDS - 1));
    }

    private static void wholeState() {
        Checks.sentence("Promise 10", "Throws `IllegalStateException` if the BASKET does not WAIT, or holds nothing, "
            + "or the BED is not empty, or has no room for it");
        Station s = Rich.station();
        for (int basket : new int[] {Rich.PULPED, Rich.DRIED_WHOLE, Rich.SPOILT}) {
            for (int bed = 0; bed < Rich.BEDS; bed++) {
                int onto = bed;
                Checks.refused("basket " + basket + " onto bed " + onto, Checks.STATE, s, t -> t.whole(basket, onto));
            }
        }
        for (int basket : new int[] {Rich.WAITING, Rich.WAITING_ONE_KILO, Rich.WAITING_200}) {
            Checks.refused("onto a natural bed", Checks.STATE, s, t -> t.whole(basket, Rich.NATURAL_BED));
            Checks.refused("onto a washed bed", Checks.STATE, s, t -> t.whole(basket, Rich.WASHED_BED));
            Checks.taken("onto an empty bed", s, t -> t.whole(basket, Rich.EMPTY_BED));
        }
        Checks.refused("200 on a small bed", Checks.STATE, s, t -> t.whole(Rich.WAITING_200, Rich.SMALL_BED));
        int sixty = s.bring(0, 60, 100);
        int more = s.bring(0, 61, 100);
        Checks.taken("60 on a small bed", s, t -> t.whole(sixty, Rich.SMALL_BED));
        Checks.refused("61 on a small bed", Checks.STATE, s, t -> t.whole(more, Rich.SMALL_BED));
        // No BASKET holds nothing: of one KILO, unripe as it is, none floats.
        int least = s.bring(0, 1, 0);
        Checks.taken("the least that a basket can hold", s, t -> t.whole(least, Rich.SMALL_BED));
    }

    private static void turn() {
        Checks.sentence("Promise 11", "Throws `IndexOutOfBoundsException` if there is no such BED");
        Station s = Rich.station();
        Checks.refusedOutside("turn without beds", Checks.INDEX, new Station(), 0, -1, (t, bed) -> t.turn(bed));
        Checks.refusedOutside("turn", Checks.INDEX, s, 0, Rich.BEDS - 1, (t, bed) -> t.turn(bed));
        Checks.sentence("Promise 11", "Throws `IllegalStateException` if it is empty");
        Checks.refused("one that was never used", Checks.STATE, s, t -> t.turn(Rich.EMPTY_BED));
        Checks.refused("one that is covered", Checks.STATE, s, t -> t.turn(Rich.SMALL_BED));
        Checks.taken("a natural one", s, t -> t.turn(Rich.NATURAL_BED));
        Checks.taken("a washed one", s, t -> t.turn(Rich.WASHED_BED));
        s.store(Rich.NATURAL_BED);
        Checks.refused("one that is stored", Checks.STATE, s, t -> t.turn(Rich.NATURAL_BED));
    }

    private static void cover() {
        Checks.sentence("Promise 12", "Throws `IndexOutOfBoundsException` if there is no such BED");
        Station s = Rich.station();
        for (boolean is : new boolean[] {false, true}) {
            Checks.refusedOutside("cover without beds", Checks.INDEX, new Station(), 0, -1, (t, bed) -> t.cover(bed, is));
            Checks.range("cover " + is, Checks.INDEX, s, 0, Rich.BEDS - 1, (t, bed) -> t.cover(bed, is));
        }
    }

    private static void storeIndex() {
        Checks.sentence("Promise 13", "Throws `IndexOutOfBoundsException` if there is no such BED");
        Checks.refusedOutside("store without beds", Checks.INDEX, new Station(), 0, -1, (t, bed) -> t.store(bed));
        Station s = Rich.station();
        Checks.refusedOutside("store", Checks.INDEX, s, 0, Rich.BEDS - 1, (t, bed) -> t.store(bed));
        Checks.taken("the first bed", s, t -> t.store(0));
        s.whole(Rich.WAITING, Rich.SMALL_BED);
        Checks.taken("the last bed", s, t -> t.store(Rich.BEDS - 1));
        Checks.refusedOutside("store with all lots", Checks.INDEX, withAllLots(), 0, Rich.BEDS - 1, (t, bed) -> t.store(bed));
    }

    private static void storeState() {
        Checks.sentence("Promise 13", "Throws `IllegalStateException` if it is empty, its LOT would have no KILOS, "
            + "or there were 12");
        Station s = Rich.station();
        Checks.refused("an empty bed", Checks.STATE, s, t -> t.store(Rich.EMPTY_BED));
        Checks.refused("an empty bed that is covered", Checks.STATE, s, t -> t.store(Rich.SMALL_BED));
        s.whole(Rich.WAITING_ONE_KILO, Rich.SMALL_BED);
        Checks.refused("a third of one kilo", Checks.STATE, s, t -> t.store(Rich.SMALL_BED));
        s.whole(s.bring(0, 2, 100), Rich.EMPTY_BED);
        Checks.refused("a third of two kilos", Checks.STATE, s, t -> t.store(Rich.EMPTY_BED));
        s.store(Rich.WASHED_BED);
        s.pulp(s.bring(0, 2, 100), Rich.EMPTY_TANK);
        Station both = s.twin();
        s.wash(Rich.EMPTY_TANK, Rich.WASHED_BED, false);
        Checks.refused("half of one kilo", Checks.STATE, s, t -> t.store(Rich.WASHED_BED));
        both.pulp(both.bring(1, 2, 100), Rich.EMPTY_TANK);
        Station enough = both.twin();
        both.wash(Rich.EMPTY_TANK, Rich.WASHED_BED, true);
        Checks.refused("half of one kilo of each of two farms", Checks.STATE, both, t -> t.store(Rich.WASHED_BED));
        enough.pulp(enough.bring(1, 2, 100), Rich.EMPTY_TANK);
        enough.wash(Rich.EMPTY_TANK, Rich.WASHED_BED, true);
        Checks.taken("half of one kilo and of two", enough, t -> t.store(Rich.WASHED_BED));
        Station full = withAllLots();
        Checks.equal("twelve lots", full.many(4), 12);
        Checks.refused("a 13th lot", Checks.STATE, full, t -> t.store(Rich.EMPTY_BED));
        Checks.refused("a 13th lot, of an empty bed", Checks.STATE, full, t -> t.store(Rich.NATURAL_BED));
    }

    private static void bias() {
        Station[] stations = {new Station(), Rich.station()};
        for (Station s : stations) {
            Checks.sentence("Promise 14", "Throws `IndexOutOfBoundsException` if taster is not 0 to 2");
            for (int bias : new int[] {-6, -5, 0, 5, 6}) {
                Checks.refusedOutside("bias " + bias, Checks.INDEX, s, 0, 2, (t, taster) -> t.bias(taster, bias));
            }
            Checks.range("bias 1", Checks.INDEX, s, 0, 2, (t, taster) -> t.bias(taster, 1));
            Checks.sentence("Promise 14", "Throws `IllegalArgumentException` if bias is not -5 to 5");
            for (int taster = 0; taster <= 2; taster++) {
                int of = taster;
                Checks.range("bias of " + of, Checks.ARGUMENT, s, -5, 5, (t, bias) -> t.bias(of, bias));
            }
        }
    }

    private static void cup() {
        Checks.sentence("Promise 15", "Throws `IndexOutOfBoundsException` if there is no such LOT, or taster is not "
            + "0 to 2");
        Station s = Rich.station();
        Checks.refusedOutside("cup without lots", Checks.INDEX, new Station(), 0, -1, (t, lot) -> t.cup(lot, 0));
        for (int taster = -1; taster <= 3; taster++) {
            int by = taster;
            Checks.refusedOutside("cup by " + by, Checks.INDEX, s, 0, Rich.LOTS - 1, (t, lot) -> t.cup(lot, by));
        }
        for (int lot = -1; lot <= Rich.LOTS; lot++) {
            int of = lot;
            Checks.refusedOutside("cup lot " + of, Checks.INDEX, s, 0, 2, (t, taster) -> t.cup(of, taster));
        }
        Checks.range("cup the first lot", Checks.INDEX, s, 0, 2, (t, taster) -> t.cup(0, taster));
        Checks.range("cup the last lot", Checks.INDEX, s, 0, 2, (t, taster) -> t.cup(Rich.LOTS - 1, taster));
        Checks.sentence("Promise 15", "Throws `IllegalStateException` if it is not in store");
        for (int taster = 0; taster <= 2; taster++) {
            int by = taster;
            Checks.refused("a sold one", Checks.STATE, s, t -> t.cup(Rich.SOLD, by));
            Checks.refused("one blended away", Checks.STATE, s, t -> t.cup(Rich.BLENDED_AWAY, by));
        }
    }

    private static void blendIndex() {
        Checks.sentence("Promise 16", "Throws `IndexOutOfBoundsException` if there is no such LOT, of both");
        Station s = Rich.station();
        Checks.refusedOutside("blend without lots", Checks.INDEX, new Station(), 0, -1, (t, lot) -> t.blend(lot, lot));
        for (int other = -1; other <= Rich.LOTS; other++) {
            int with = other;
            Checks.refusedOutside("first of " + with, Checks.INDEX, s, 0, Rich.LOTS - 1, (t, lot) -> t.blend(lot, with));
            Checks.refusedOutside("other of " + with, Checks.INDEX, s, 0, Rich.LOTS - 1, (t, lot) -> t.blend(with, lot));
        }
        Checks.refusedOutside("twice the same", Checks.INDEX, s, 0, Rich.LOTS - 1, (t, lot) -> t.blend(lot, lot));
        s.store(Rich.NATURAL_BED);
        Checks.taken("the first and the last", s, t -> t.blend(0, Rich.LOTS));
        Checks.taken("the last and the first", s, t -> t.blend(Rich.LOTS, 0));
    }

    private static void blendArgument() {
        Checks.sentence("Promise 16", "Throws `IllegalArgumentException` if both are the same");
        Station s = Rich.station();
        for (int lot = 0; lot < Rich.LOTS; lot++) {
            int both = lot;
            Checks.refused("lot " + both + " twice", Checks.ARGUMENT, s, t -> t.blend(both, both));
        }
    }

    private static void blendState() {
        Checks.sentence("Promise 16", "Throws `IllegalStateException` if one is not in store, or they are of two "
            + "METHODS");
        Station s = Rich.station();
        Checks.taken("two natural ones in store", s, t -> t.blend(Rich.GRADED, Rich.UNGRADED));
        for (int gone : new int[] {Rich.SOLD, Rich.BLENDED_AWAY}) {
            for (int lot : new int[] {Rich.GRADED, Rich.UNGRADED, Rich.HONEY}) {
                Checks.refused(lot + " with " + gone, Checks.STATE, s, t -> t.blend(lot, gone));
                Checks.refused(gone + " with " + lot, Checks.STATE, s, t -> t.blend(gone, lot));
            }
        }
        Checks.refused("two that are gone", Checks.STATE, s, t -> t.blend(Rich.SOLD, Rich.BLENDED_AWAY));
        Checks.refused("natural with honey", Checks.STATE, s, t -> t.blend(Rich.GRADED, Rich.HONEY));
        Checks.refused("honey with natural", Checks.STATE, s, t -> t.blend(Rich.HONEY, Rich.GRADED));
        int washed = s.store(Rich.WASHED_BED);
        Checks.refused("washed with honey", Checks.STATE, s, t -> t.blend(washed, Rich.HONEY));
        Checks.refused("honey with washed", Checks.STATE, s, t -> t.blend(Rich.HONEY, washed));
        Checks.refused("washed with natural", Checks.STATE, s, t -> t.blend(washed, Rich.GRADED));
    }

    private static void sellIndex() {
        Checks.sentence("Promise 17", "Throws `IndexOutOfBoundsException` if there is no such LOT");
        Station s = Rich.station();
        Checks.refusedOutside("sell without lots", Checks.INDEX, new Station(), 0, -1, (t, lot) -> t.sell(lot, 1, true));
        for (int price : new int[] {0, 1, 200, 201}) {
            Checks.refusedOutside("sell for " + price, Checks.INDEX, s, 0, Rich.LOTS - 1, (t, lot) -> t.sell(lot, price, true));
        }
        Checks.range("sell", Checks.INDEX, s, 0, Rich.LOTS - 1, (t, lot) -> t.sell(lot, 1, false));
    }

    private static void sellArgument() {
        Checks.sentence("Promise 17", "Throws `IllegalArgumentException` if price is not 1 to 200");
        Station s = Rich.station();
        for (boolean isLabelled : new boolean[] {false, true}) {
            Checks.range("sell", Checks.ARGUMENT, s, 1, 200, (t, price) -> t.sell(Rich.GRADED, price, isLabelled));
            for (int lot : new int[] {Rich.UNGRADED, Rich.SOLD, Rich.BLENDED_AWAY}) {
                Checks.refusedOutside("sell lot " + lot, Checks.ARGUMENT, s, 1, 200,
                    (t, price) -> t.sell(lot, price, isLabelled));
            }
        }
    }

    private static void sellState() {
        Checks.sentence("Promise 17", "Throws `IllegalStateException` if it is not in store, or has no GRADE");
        Station s = Rich.station();
        for (boolean isLabelled : new boolean[] {false, true}) {
            for (int price = 1; price <= 200; price += 199) {
                int each = price;
                Checks.refused("without a grade", Checks.STATE, s, t -> t.sell(Rich.UNGRADED, each, isLabelled));
                Checks.refused("sold", Checks.STATE, s, t -> t.sell(Rich.SOLD, each, isLabelled));
                Checks.refused("blended away", Checks.STATE, s, t -> t.sell(Rich.BLENDED_AWAY, each, isLabelled));
                Checks.taken("with a grade", s, t -> t.sell(Rich.HONEY, each, isLabelled));
            }
        }
        Checks.equal("what is sold has a grade", s.ofLot(Rich.SOLD, 9) > 0, true);
    }

    private static void namedFirst() {
        Checks.sentence("Section 4", "A method that throws an exception changes nothing. If several exceptions "
            + "apply, the one that is named first is thrown.");
        Station s = withAllLots();
        for (int farm = Rich.FARMS; farm < 6; farm++) {
            s.farm(10);
        }
        s.bed(5);
        Checks.equal("all baskets are brought", s.many(2), 20);
        Checks.passLong(s, 20000 - s.many(0), 40, 20);
        Checks.refused("farm: argument, state", Checks.ARGUMENT, s, t -> t.farm(23));
        Checks.refused("label: index, argument", Checks.INDEX, s, t -> t.label(6, 901));
        Checks.refused("bring: index, argument, state", Checks.INDEX, s, t -> t.bring(6, 201, 101));
        Checks.refused("bring: index, state", Checks.INDEX, s, t -> t.bring(6, 200, 100));
        Checks.refused("bring: argument, state", Checks.ARGUMENT, s, t -> t.bring(5, 201, 101));
        Checks.refused("pass: argument, state", Checks.ARGUMENT, s, t -> t.pass(101, 0, 0));
        Checks.refused("bed: argument, state", Checks.ARGUMENT, s, t -> t.bed(41));
        Checks.refused("pulp: index of basket, state", Checks.INDEX, s, t -> t.pulp(20, Rich.FULL_TANK));
        Checks.refused("pulp: index of tank, state", Checks.INDEX, s, t -> t.pulp(Rich.PULPED, 3));
        Checks.refused("wash: index of tank, state", Checks.INDEX, s, t -> t.wash(3, Rich.EMPTY_BED, true));
        Checks.refused("wash: index of bed, state", Checks.INDEX, s, t -> t.wash(Rich.EMPTY_TANK, 5, true));
        Checks.refused("whole: index of basket, state", Checks.INDEX, s, t -> t.whole(20, Rich.EMPTY_BED));
        Checks.refused("whole: index of bed, state", Checks.INDEX, s, t -> t.whole(Rich.SPOILT, 5));
        Checks.refused("store: index, state", Checks.INDEX, s, t -> t.store(5));
        Checks.refused("bias: index, argument", Checks.INDEX, s, t -> t.bias(3, 6));
        Checks.refused("cup: index of taster, state", Checks.INDEX, s, t -> t.cup(Rich.SOLD, 3));
        Checks.refused("blend: index, argument, state", Checks.INDEX, s, t -> t.blend(12, 12));
        Checks.refused("blend: index, state", Checks.INDEX, s, t -> t.blend(Rich.SOLD, 12));
        Checks.refused("blend: argument, state", Checks.ARGUMENT, s, t -> t.blend(Rich.SOLD, Rich.SOLD));
        Checks.refused("sell: index, argument", Checks.INDEX, s, t -> t.sell(12, 201, true));
        Checks.refused("sell: argument, state", Checks.ARGUMENT, s, t -> t.sell(Rich.SOLD, 201, true));
    }
}
