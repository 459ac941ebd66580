/** Promises 26 to 30. */
public final class WouldBeTest {
    private static final int[] WILD = {Integer.MIN_VALUE, -1, 41, Integer.MAX_VALUE};

    public static void main(String[] args) {
        promise26ReadyIn();
        promise26Ends();
        promise26Refuses();
        promise27DryIn();
        promise27MatchesPass();
        promise27Ends();
        promise27Refuses();
        promise28BestBlend();
        promise28Ties();
        promise28ByEachFault();
        promise29WouldShare();
        promise29Refuses();
        promise30Digest();
        Checks.end();
    }

    private static void promise26ReadyIn() {
        Station s = new Station();
        s.farm(14);
        Checks.equal("26: an empty tank", s.readyIn(0, 40), -1);
        s.pulp(s.bring(0, 100, 100), 0);
        s.pulp(s.bring(0, 200, 100), 1);
        Checks.equal("26: 60 by 10", s.readyIn(0, 40), 6);
        Checks.equal("26: 60 by 9", s.readyIn(0, 39), 7);
        Checks.equal("26: with 100 kilos, 60 by 10", s.readyIn(1, 39), 6);
        Checks.equal("26: with 100 kilos in the cold", s.readyIn(1, 3), 60);
        Checks.equal("26: never in the cold", s.readyIn(0, 3), -1);
        s.pass(4, 40, 0);
        Checks.equal("26: 20 by 7", s.readyIn(0, 28), 3);
        s.pass(2, 36, 0);
        Checks.equal("26: 2 by 7", s.readyIn(0, 28), 1);
        Checks.equal("26: 2 by 1", s.readyIn(0, 4), 2);
        s.pass(2, 4, 0);
        Checks.equal("26: they are", s.readyIn(0, 28), 0);
        Checks.equal("26: they are, even in the cold", s.readyIn(0, 0), 0);
        s.pass(50, 28, 0);
        Checks.equal("26: long ago", s.readyIn(0, 0), 0);
    }

    private static void promise26Ends() {
        Station s = new Station();
        s.farm(14);
        Checks.passLong(s, 20000, 0, 0);
        s.pulp(s.bring(0, 100, 100), 0);
        Checks.equal("26: beyond hour 20000", s.readyIn(0, 4), 60);
        Checks.equal("26: the hour stays", s.many(0), 20000);
        Checks.equal("26: the points stay", s.ofTank(0, 3), 0);
    }

    private static void promise26Refuses() {
        Station s = new Station();
        for (int wild : WILD) {
            Checks.refused("26: readyIn(" + wild + ", 20)", Checks.INDEX, s, t -> t.readyIn(wild, 20));
            Checks.refused("26: readyIn(" + wild + ", 41)", Checks.INDEX, s, t -> t.readyIn(wild, 41));
            Checks.refused("26: readyIn(0, " + wild + ")", Checks.ARGUMENT, s, t -> t.readyIn(0, wild));
        }
        Checks.refused("26: readyIn(3, 20)", Checks.INDEX, s, t -> t.readyIn(3, 20));
    }

    private static void promise27DryIn() {
        Station s = new Station();
        s.farm(14);
        s.bed(40);
        s.bed(10);
        Checks.equal("27: an empty bed", s.dryIn(0, 40), -1);
        s.whole(s.bring(0, 30, 100), 0);
        // 475 by 40 are 12 hours of days, of which one has ten.
        Checks.equal("27: from hour 0", s.dryIn(0, 40), 24 + 9);
        s.pass(8, 0, 0);
        Checks.equal("27: from hour 8", s.dryIn(0, 40), 16 + 10);
        s.pass(4, 40, 0);
        Checks.equal("27: with 440, from hour 12", s.dryIn(0, 40), 12 + 10);
        s.cover(0, true);
        // 315 by 10 are 32 hours: 5 of this day, 27 of three more.
        Checks.equal("27: covered", s.dryIn(0, 40), 3 * 24 - 4 + 6);
        Checks.equal("27: it is asked without change", s.ofBed(0, 4), 440);
        s.cover(0, false);
        s.pass(5, 40, 0);
        s.pass(14, 0, 0);
        s.pass(1, 40, 0);
        s.pass(2, 37, 0);
        Checks.equal("27: with 126", s.ofBed(0, 4), 126);
        Checks.equal("27: one by 1", s.dryIn(0, 1), 1);
        Checks.equal("27: none without warmth", s.dryIn(0, 0), -1);
        s.pass(1, 1, 0);
        Checks.equal("27: with 125 it is", s.dryIn(0, 0), 0);
        s.pass(1, 40, 0);
        Checks.equal("27: and with less", s.dryIn(0, 0), 0);
        s.whole(s.bring(0, 100, 100), 1);
        // 100 on an area of 10: 200 by 20 are 10 an hour, so 48 hours: 5 of day 1, 40 of four more, 3 of day 6.
        Checks.equal("27: by depth", s.many(0), 36);
        Checks.equal("27: of a deep one", s.dryIn(1, 20), 6 * 24 + 10 - 36);
    }

    private static void promise27MatchesPass() {
        for (int warmth = 1; warmth <= 40; warmth += 3) {
            Station s = new Station();
            s.farm(14);
            s.bed(7);
            s.cover(0, warmth % 2 == 0);
            s.pass(warmth, 0, 0);
            s.whole(s.bring(0, 80, 100), 0);
            int due = s.dryIn(0, warmth);
            int hours = due == -1 ? 401 : due;
            Checks.equal("27: an hour earlier, with " + warmth, moistureIn(s, hours - 1, warmth) > 125, true);
            Checks.equal("27: as hours go by, with " + warmth, due == -1 || moistureIn(s, hours, warmth) <= 125, true);
        }
    }

    private static int moistureIn(Station s, int hours, int warmth) {
        Station twin = s.twin();
        Checks.passLong(twin, hours, warmth, 0);
        return twin.ofBed(0, 4);
    }

    private static void promise27Ends() {
        Station s = new Station();
        s.farm(14);
        s.bed(40);
        Checks.passLong(s, 20000, 0, 0);
        s.whole(s.bring(0, 30, 100), 0);
        // Hour 20000 has the time 8; 475 by 40 are 12 hours of days.
        Checks.equal("27: beyond hour 20000", s.dryIn(0, 40), 9 + 14 + 3);
        Station t = new Station();
        t.farm(14);
        t.bed(40);
        t.pulp(t.bring(0, 60, 100), 0);
        t.wash(0, 0, false);
        t.pass(17, 0, 0);
        // 425 by 3 are 142 hours of days, 160 of which are in 400 hours; by 2 they are 213.
        Checks.equal("27: in less than 400", t.dryIn(0, 3), 14 * 24 + 15 + 1);
        Checks.equal("27: not in 400", t.dryIn(0, 2), -1);
        t.pass(14, 0, 0);
        t.pass(6, 40, 0);
        t.pass(4, 5, 0);
        Checks.equal("27: moisture", t.ofBed(0, 4), 290);
        // 165 by 1 are 16 days of ten hours and, on the next, those of the times 8 to 12.
        t.pass(2, 0, 0);
        Checks.equal("27: time", t.many(0) % 24, 19);
        Checks.equal("27: in 401", t.dryIn(0, 1), -1);
        t.pass(1, 0, 0);
        Checks.equal("27: in 400", t.dryIn(0, 1), 400);
        t.pass(1, 0, 0);
        Checks.equal("27: in 399", t.dryIn(0, 1), 399);
    }

    private static void promise27Refuses() {
        Station s = new Station();
        Checks.refused("27: dryIn without beds", Checks.INDEX, s, t -> t.dryIn(0, 20));
        s.bed(20);
        for (int wild : WILD) {
            Checks.refused("27: dryIn(" + wild + ", 20)", Checks.INDEX, s, t -> t.dryIn(wild, 20));
            Checks.refused("27: dryIn(" + wild + ", 41)", Checks.INDEX, s, t -> t.dryIn(wild, 41));
            Checks.refused("27: dryIn(0, " + wild + ")", Checks.ARGUMENT, s, t -> t.dryIn(0, wild));
        }
        Checks.refused("27: dryIn(1, 20)", Checks.INDEX, s, t -> t.dryIn(1, 20));
    }

    private static void dryAll(Station s, int beds) {
        for (int i = 0; i < 40; i++) {
            for (int bed = 0; bed < beds; bed++) {
                s.turn(bed);
            }
            s.pass(6, 40, 0);
        }
    }

    private static void promise28BestBlend() {
        Station s = new Station();
        int[] heights = {10, 16, 22, 12};
        Checks.equal("28: without lots", s.bestBlend(), -1);
        for (int i = 0; i < 4; i++) {
            s.farm(heights[i]);
            s.bed(40);
            s.whole(s.bring(i, 30, 100), i);
        }
        s.bed(40);
        s.pulp(s.bring(2, 60, 100), 0);
        s.wash(0, 4, true);
        dryAll(s, 5);
        s.store(0);
        Checks.equal("28: with one lot", s.bestBlend(), -1);
        s.store(4);
        Checks.equal("28: with two of two methods", s.bestBlend(), -1);
        s.store(1);
        Checks.equal("28: with one pair", s.bestBlend(), 20 * 0 + 2);
        s.store(2);
        s.store(3);
        // Lots 0, 2, 3, 4 are natural, of the heights 10, 16, 22, 12.
        Checks.equal("28: the two highest", s.bestBlend(), 20 * 2 + 3);
        long before = s.digest();
        s.bestBlend();
        Checks.equal("28: nothing is changed", s.digest(), before);
        s.cup(2, 0);
        s.sell(2, 1, false);
        Checks.equal("28: of those in store", s.bestBlend(), 20 * 3 + 4);
        s.blend(3, 4);
        Checks.equal("28: of two left", s.bestBlend(), 20 * 0 + 3);
        s.blend(0, 3);
        Checks.equal("28: of none left", s.bestBlend(), -1);
    }

    private static void promise28Ties() {
        Station s = new Station();
        s.farm(10);
        s.farm(20);
        for (int i = 0; i < 5; i++) {
            s.bed(40);
            s.whole(s.bring(i == 0 ? 0 : 1, 30, 100), i);
        }
        dryAll(s, 5);
        for (int i = 0; i < 5; i++) {
            s.store(i);
        }
        Checks.equal("28: of several the smallest number", s.bestBlend(), 20 * 1 + 2);
        // Blended with the older lot 1 one is worse than without it.
        Station t = new Station();
        t.farm(20);
        t.bed(40);
        for (int i = 0; i < 3; i++) {
            t.whole(t.bring(0, 30, 100), 0);
            dryAll(t, 1);
            t.store(0);
            Checks.passLong(t, i == 0 ? 24 * 60 : 24, 0, 0);
        }
        Checks.equal("28: the two youngest", t.bestBlend(), 20 * 1 + 2);
    }

    private static void promise28ByEachFault() {
        // Lots 0 and 1 are worse than 2 and 3 in one way alone, so each blend with one of them is, too.
        Checks.equal("28: of two methods", bestOfFour(true, 0, 0, 0), 20 * 2 + 3);
        Checks.equal("28: by their points", bestOfFour(false, 60, 0, 0), 20 * 2 + 3);
        Checks.equal("28: by their mould", bestOfFour(false, 0, 24, 0), 20 * 2 + 3);
        Checks.equal("28: by their moisture", bestOfFour(false, 0, 0, 20), 20 * 2 + 3);
    }

    /** Four lots: the last two natural or with more points, or the first two with more mould or rain. */
    private static int bestOfFour(boolean isNatural, int points, int mouldHours, int rain) {
        Station s = new Station();
        s.farm(20);
        for (int i = 0; i < 4; i++) {
            s.bed(40);
        }
        layWashed(s, 0, 0);
        layWashed(s, 1, 0);
        if (mouldHours > 0) {
            s.pass(mouldHours, 0, 0);
        }
        for (int i = 2; i < 4; i++) {
            s.turn(0);
            s.turn(1);
            if (isNatural) {
                s.whole(s.bring(0, 30, 100), i);
            } else {
                layWashed(s, i, points);
            }
        }
        dryAll(s, 4);
        s.cover(2, true);
        s.cover(3, true);
        for (int i = 0; i < 2; i++) {
            s.turn(0);
            s.turn(1);
            s.pass(10, 0, rain);
        }
        for (int i = 0; i < 4; i++) {
            s.store(i);
        }
        return s.bestBlend();
    }

    private static void layWashed(Station s, int bed, int points) {
        s.pulp(s.bring(0, 60, 100), 0);
        if (points > 0) {
            s.pass(points / 10, 40, 0);
        }
        s.wash(0, bed, false);
    }

    private static void promise29WouldShare() {
        Station s = new Station();
        s.farm(22);
        s.farm(21);
        s.farm(20);
        s.bed(40);
        s.label(0, 900);
        s.pulp(s.bring(0, 28, 100), 0);
        s.pulp(s.bring(1, 44, 100), 0);
        s.wash(0, 0, true);
        dryAll(s, 1);
        s.store(0);
        s.bias(2, 5);
        s.cup(0, 2);
        Checks.equal("29: a grade of 80 or more", s.ofLot(0, 9) >= 80, true);
        // 7 and 11 kilos; for 31 each they bring 558, as labelled 70 more.
        int[] shares = {86, 136, 0};
        int[] labelled = {97, 153, 0};
        long before = s.digest();
        for (int farm = 0; farm < 3; farm++) {
            Checks.equal("29: share of farm " + farm, s.wouldShare(0, farm, 31, false), shares[farm]);
            Checks.equal("29: labelled, of farm " + farm, s.wouldShare(0, farm, 31, true), labelled[farm]);
        }
        Checks.equal("29: nothing is changed", s.digest(), before);
        int coins = s.ofFarm(1, 2);
        Checks.equal("29: as it is sold then", s.sell(0, 31, true), 628 - 97 - 153);
        Checks.equal("29: coins then", s.ofFarm(1, 2) - coins, 153);
    }

    private static void promise29Refuses() {
        Station s = new Station();
        s.farm(22);
        s.bed(40);
        Checks.refused("29: without lots", Checks.INDEX, s, t -> t.wouldShare(0, 0, 1, true));
        Checks.naturalLot(s, 0, 60, 0);
        for (int price : new int[] {0, 201, Integer.MIN_VALUE, Integer.MAX_VALUE}) {
            Checks.refused("29: for " + price, Checks.ARGUMENT, s, t -> t.wouldShare(0, 0, price, true));
            Checks.refused("29: no lot, for " + price, Checks.INDEX, s, t -> t.wouldShare(1, 0, price, true));
            Checks.refused("29: no farm, for " + price, Checks.INDEX, s, t -> t.wouldShare(0, 1, price, true));
        }
        Checks.refused("29: without a grade", Checks.STATE, s, t -> t.wouldShare(0, 0, 1, true));
        s.cup(0, 0);
        for (int wild : WILD) {
            Checks.refused("29: lot " + wild, Checks.INDEX, s, t -> t.wouldShare(wild, 0, 1, true));
            Checks.refused("29: farm " + wild, Checks.INDEX, s, t -> t.wouldShare(0, wild, 1, true));
        }
        Checks.equal("29: for 1", s.wouldShare(0, 0, 1, false), 8);
        Checks.equal("29: for 200", s.wouldShare(0, 0, 200, false), 1600);
        s.sell(0, 1, false);
        Checks.refused("29: sold", Checks.STATE, s, t -> t.wouldShare(0, 0, 1, true));
        Checks.refused("29: sold, and no farm", Checks.INDEX, s, t -> t.wouldShare(0, 1, 1, true));
    }

    private static long digestByItsParts(Station s) {
        long d = 7802;
        for (int what = 0; what <= 15; what++) {
            d = d * 31 + s.many(what);
        }
        for (int i = 0; i < s.many(1); i++) {
            for (int what = 0; what <= 4; what++) {
                d = d * 31 + s.ofFarm(i, what);
            }
        }
        for (int i = 0; i < s.many(2); i++) {
            for (int what = 0; what <= 5; what++) {
                d = d * 31 + s.ofBasket(i, what);
            }
        }
        for (int i = 0; i < 3; i++) {
            for (int what = 0; what <= 4; what++) {
                d = d * 31 + s.ofTank(i, what);
            }
            d = d * 31 + s.readyIn(i, 20);
        }
        for (int i = 0; i < s.many(3); i++) {
            for (int what = 0; what <= 7; what++) {
                d = d * 31 + s.ofBed(i, what);
            }
            d = d * 31 + s.dryIn(i, 25);
        }
        for (int i = 0; i < s.many(4); i++) {
            for (int what = 0; what <= 11; what++) {
                d = d * 31 + s.ofLot(i, what);
            }
            for (int farm = 0; farm < s.many(1); farm++) {
                d = d * 31 + s.kilosOf(i, farm);
            }
        }
        return d * 31 + s.bestBlend();
    }

    private static void promise30Digest() {
        Station s = new Station();
        Checks.equal("30: digest of a new station", s.digest(), -7132108181383346008L);
        Checks.equal("30: by its parts", s.digest(), digestByItsParts(s));
        s.farm(22);
        s.farm(13);
        s.bed(40);
        s.bed(20);
        s.cover(1, true);
        s.label(1, 3);
        s.pulp(s.bring(0, 60, 90), 0);
        s.pulp(s.bring(1, 70, 80), 0);
        s.whole(s.bring(1, 80, 70), 1);
        s.bring(1, 80, 70);
        s.pass(3, 20, 0);
        Checks.equal("30: with tanks and beds", s.digest(), digestByItsParts(s));
        s.wash(0, 0, true);
        s.pass(30, 20, 0);
        s.store(0);
        s.store(1);
        s.cup(1, 0);
        Checks.equal("30: with lots", s.digest(), digestByItsParts(s));
        s.whole(s.bring(0, 30, 70), 0);
        Checks.equal("30: drying differs by one degree", s.dryIn(0, 25) != s.dryIn(0, 24), true);
        Checks.equal("30: with a bed to dry", s.digest(), digestByItsParts(s));
    }
}
