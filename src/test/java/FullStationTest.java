/** All promises at the limits: 6 farms, 5 beds, 20 baskets, 12 lots, all in store, and hour 20000. */
public final class FullStationTest {
    public static void main(String[] args) {
        Station s = new Station();
        fill(s);
        everyCallAnswers(s);
        sellAll(s);
        Checks.end();
    }

    private static void fill(Station s) {
        for (int i = 0; i < 6; i++) {
            s.farm(17 + i);
            s.label(i, 900);
        }
        for (int i = 0; i < 5; i++) {
            s.bed(40);
        }
        // Tank 0 is filled to 300 kilos of three farms, then everything else is dried whole.
        for (int i = 0; i < 3; i++) {
            s.pulp(s.bring(i, 200, 100), 0);
        }
        s.wash(0, 0, false);
        Checks.equal("full: 150 kilos of a lot", s.ofLot(s.store(0), 0), 150);
        for (int i = 1; i < 12; i++) {
            Checks.naturalLot(s, i % 6, 200, i % 5);
        }
        for (int i = 0; i < 5; i++) {
            s.whole(s.bring(5, 200, 100), i);
        }
        s.pulp(s.bring(4, 200, 100), 2);
        Checks.equal("full: baskets", s.many(2), 20);
        Checks.equal("full: lots in store", s.many(5), 12);
        Checks.equal("full: kilos in store", s.many(11), 150 + 11 * 66);
        Checks.passLong(s, 20000, 40, 0);
    }

    private static void everyCallAnswers(Station s) {
        Checks.equal("full: hour", s.many(0), 20000);
        Checks.equal("full: points of a tank", s.ofTank(2, 3), 20000 * 11);
        Checks.equal("full: age of a lot", s.ofLot(11, 8), 20000 / 24);
        Checks.equal("full: all scores are at the least", s.bestBlend(), 20 * 1 + 2);
        Checks.same("full: mean score", s.meanScore(), bestGuess(s));
        Checks.refused("full: farm", Checks.STATE, s, t -> t.farm(10));
        Checks.refused("full: bed", Checks.STATE, s, t -> t.bed(10));
        Checks.refused("full: bring", Checks.STATE, s, t -> t.bring(0, 1, 1));
        Checks.refused("full: pass", Checks.STATE, s, t -> t.pass(1, 1, 1));
        Checks.refused("full: store", Checks.STATE, s, t -> t.store(4));
        Checks.refused("full: no 6th farm", Checks.INDEX, s, t -> t.ofFarm(6, 0));
        Checks.refused("full: no 20th basket", Checks.INDEX, s, t -> t.ofBasket(20, 0));
        Checks.refused("full: no 5th bed", Checks.INDEX, s, t -> t.ofBed(5, 0));
        Checks.refused("full: no 12th lot", Checks.INDEX, s, t -> t.ofLot(12, 0));
    }

    private static double bestGuess(Station s) {
        long sum = 0;
        long kilos = 0;
        for (int i = 0; i < 12; i++) {
            sum += s.ofLot(i, 0) * s.ofLot(i, 10);
            kilos += s.ofLot(i, 0);
        }
        return (double) sum / (double) kilos;
    }

    private static void sellAll(Station s) {
        for (int i = 2; i < 12; i++) {
            Checks.equal("full: blended kilos", s.blend(1, i), 66 * i);
        }
        s.bias(0, 5);
        s.cup(0, 0);
        s.cup(1, 0);
        long brought = (150 + 11 * 66) * 200L;
        long before = s.many(6) + s.many(15);
        s.sell(0, 200, true);
        s.sell(1, 200, true);
        Checks.equal("full: all that is brought is somebody's", s.many(6) + s.many(15) - before, brought);
        Checks.equal("full: sold", s.many(12), 150 + 11 * 66);
        Checks.equal("full: none in store", s.many(11), 0);
    }
}
