import java.util.ArrayList;
import java.util.List;

/**
 * A CherryStation as the tests use it. It notes the calls that changed it, so that twins of it can be made, and it
 * ends the test at the 513th call: what an object answers from there on is free.
 */
final class Station {
    private static final int MOST_CALLS = 512;

    private interface Call {
        long on(CherryStation station);
    }

    private final CherryStation own = new CherryStation();
    private final List<Call> changes = new ArrayList<>();
    private int calls = 0;

    /** Another station on which all was called that changed this one, and nothing else. */
    Station twin() {
        Station twin = new Station();
        for (Call change : changes) {
            twin.change(change);
        }
        return twin;
    }

    int callsLeft() {
        return MOST_CALLS - calls;
    }

    /** How many calls have changed this station: as long as they are the same, its answers are. */
    int changeCount() {
        return changes.size();
    }

    private long ask(Call call) {
        if (callsLeft() == 0) {
            throw new AssertionError("a test calls one station more than 512 times");
        }
        calls++;
        return call.on(own);
    }

    private long change(Call call) {
        long answer = ask(call);
        changes.add(call);
        return answer;
    }

    int farm(int height) {
        return (int) change(s -> s.farm(height));
    }

    int label(int farm, int day) {
        return (int) change(s -> s.label(farm, day));
    }

    int price(int price) {
        return (int) change(s -> s.price(price));
    }

    int bring(int farm, int kilos, int ripe) {
        return (int) change(s -> s.bring(farm, kilos, ripe));
    }

    int pass(int hours, int warmth, int rain) {
        return (int) change(s -> s.pass(hours, warmth, rain));
    }

    int bed(int area) {
        return (int) change(s -> s.bed(area));
    }

    int pulp(int basket, int tank) {
        return (int) change(s -> s.pulp(basket, tank));
    }

    int wash(int tank, int bed, boolean isHoney) {
        return (int) change(s -> s.wash(tank, bed, isHoney));
    }

    int whole(int basket, int bed) {
        return (int) change(s -> s.whole(basket, bed));
    }

    int turn(int bed) {
        return (int) change(s -> s.turn(bed));
    }

    boolean cover(int bed, boolean is) {
        return change(s -> s.cover(bed, is) ? 1 : 0) == 1;
    }

    int store(int bed) {
        return (int) change(s -> s.store(bed));
    }

    int bias(int taster, int bias) {
        return (int) change(s -> s.bias(taster, bias));
    }

    int cup(int lot, int taster) {
        return (int) change(s -> s.cup(lot, taster));
    }

    int blend(int lot, int other) {
        return (int) change(s -> s.blend(lot, other));
    }

    int sell(int lot, int price, boolean isLabelled) {
        return (int) change(s -> s.sell(lot, price, isLabelled));
    }

    int ofFarm(int farm, int what) {
        return (int) ask(s -> s.ofFarm(farm, what));
    }

    int ofBasket(int basket, int what) {
        return (int) ask(s -> s.ofBasket(basket, what));
    }

    int ofTank(int tank, int what) {
        return (int) ask(s -> s.ofTank(tank, what));
    }

    int ofBed(int bed, int what) {
        return (int) ask(s -> s.ofBed(bed, what));
    }

    int ofLot(int lot, int what) {
        return (int) ask(s -> s.ofLot(lot, what));
    }

    int kilosOf(int lot, int farm) {
        return (int) ask(s -> s.kilosOf(lot, farm));
    }

    int many(int what) {
        return (int) ask(s -> s.many(what));
    }

    double meanScore() {
        return Double.longBitsToDouble(ask(s -> Double.doubleToRawLongBits(s.meanScore())));
    }

    int readyIn(int tank, int warmth) {
        return (int) ask(s -> s.readyIn(tank, warmth));
    }

    int dryIn(int bed, int warmth) {
        return (int) ask(s -> s.dryIn(bed, warmth));
    }

    int bestBlend() {
        return (int) ask(CherryStation::bestBlend);
    }

    int wouldShare(int lot, int farm, int price, boolean isLabelled) {
        return (int) ask(s -> s.wouldShare(lot, farm, price, isLabelled));
    }

    long digest() {
        return ask(CherryStation::digest);
    }
}
