/** What it is, and the terms: each sentence there that names a boundary case. */
public final class TermsBoundsTest {
    public static void main(String[] args) {
        theLastOf512Calls();
        dividedIsRoundedDown();
        noneIsMinus1();
        Checks.end();
    }

    private static void theLastOf512Calls() {
        Checks.sentence("What it is", "An object is used for at most 512 calls after it has been made; what later "
            + "calls answer is free.");
        Station asked = Rich.station();
        long digest = asked.digest();
        while (asked.callsLeft() > 1) {
            asked.many(0);
        }
        Checks.equal("the 512th call, which asks", asked.digest(), digest);
        Station refused = Rich.station();
        while (refused.callsLeft() > 1) {
            Checks.outcome(refused, t -> t.farm(9));
        }
        Checks.equal("the 512th call, after many that were refused", refused.digest(), digest);
        Station told = new Station();
        int before = 5;
        for (int call = 1; call <= 512; call++) {
            int price = 1 + call % 50;
            Checks.equal("call " + call + ", which tells", told.price(price), before);
            before = price;
        }
        Checks.equal("no call is left", told.callsLeft(), 0);
    }

    private static void dividedIsRoundedDown() {
        Checks.sentence("Terms", "All numbers are whole; what is divided is rounded down. NONE is -1.");
        Station s = new Station();
        s.farm(10);
        s.bed(20);
        // 199 times 1 by 200; the half of 199, and of 99; 39 by 4; 230 by 11, and a quarter of that.
        s.bring(0, 199, 99);
        Checks.equal("FLOATERS of 0.995", s.many(7), 0);
        Checks.equal("a half of 99.5", s.pulp(0, 0), 99);
        s.pass(1, 39, 0);
        Checks.equal("POINTS of 9.75 and of 0.99", s.ofTank(0, 3), 9);
        s.wash(0, 0, false);
        Checks.equal("a half of 49.5", s.ofLot(s.store(0), 0), 49);
        s.pass(6, 0, 0);
        s.whole(s.bring(0, 39, 100), 0);
        s.pass(1, 23, 0);
        Checks.equal("less by 20.9, of a depth of 1.95", s.ofBed(0, 4), 580);
        s.cover(0, true);
        s.pass(1, 26, 0);
        Checks.equal("less by 5.9", s.ofBed(0, 4), 575);
        s.store(0);
        s.whole(s.bring(0, 5, 100), 0);
        Checks.equal("a third of 1.67", s.ofLot(s.store(0), 0), 1);
        s.bias(0, 1);
        s.cup(2, 0);
        s.cup(2, 1);
        Checks.equal("a mean of 40.5", s.ofLot(2, 9), 40);
        Checks.equal("two fifths of 4", s.wouldShare(2, 0, 4, false), 1);
    }

    private static void noneIsMinus1() {
        Checks.sentence("Terms", "NONE is -1.");
        Station s = new Station();
        s.farm(10);
        s.bed(40);
        Checks.equal("a LABEL", s.ofFarm(0, 1), -1);
        Checks.equal("a LABEL before", s.label(0, 0), -1);
        Checks.equal("a LABEL told as NONE", s.label(0, -1), 0);
        Checks.equal("a LABEL of NONE again", s.ofFarm(0, 1), -1);
        Checks.equal("what is ready", s.readyIn(0, 40), -1);
        Checks.equal("what is dry", s.dryIn(0, 40), -1);
        Checks.equal("a best blend", s.bestBlend(), -1);
        Checks.naturalLot(s, 0, 30, 0);
        Checks.equal("a GRADE", s.ofLot(0, 9), -1);
    }
}
