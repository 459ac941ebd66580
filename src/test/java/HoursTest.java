/** Promise 6: what an hour does to baskets, tanks, beds and lots. */
public final class HoursTest {
    public static void main(String[] args) {
        promise6Refuses();
        promise6HasAnEnd();
        promise6BasketsSpoil();
        promise6TanksFerment();
        promise6BedsDryByDay();
        promise6BedsDryByDepth();
        promise6BedsInRain();
        promise6MoistureHasAFloor();
        promise6Mould();
        promise6LotsAge();
        Checks.end();
    }

    private static void promise6Refuses() {
        Station s = new Station();
        s.farm(10);
        s.bring(0, 50, 100);
        int[][] wrong = {{0, 10, 10}, {101, 10, 10}, {10, -1, 10}, {10, 41, 10}, {10, 10, -1}, {10, 10, 21},
            {Integer.MIN_VALUE, 0, 0}, {Integer.MAX_VALUE, 0, 0}, {1, Integer.MIN_VALUE, 0}, {1, Integer.MAX_VALUE, 0},
            {1, 0, Integer.MIN_VALUE}, {1, 0, Integer.MAX_VALUE}};
        for (int[] w : wrong) {
            Checks.refused("6: pass(" + w[0] + ", " + w[1] + ", " + w[2] + ")", Checks.ARGUMENT, s,
                t -> t.pass(w[0], w[1], w[2]));
        }
        Checks.equal("6: pass(100, 40, 20)", s.pass(100, 40, 20), 1);
        Checks.equal("6: pass(1, 0, 0)", s.pass(1, 0, 0), 0);
        Checks.equal("6: hour", s.many(0), 101);
    }

    private static void promise6HasAnEnd() {
        Station s = new Station();
        Checks.passLong(s, 19950, 20, 0);
        Checks.refused("6: beyond hour 20000", Checks.STATE, s, t -> t.pass(51, 20, 0));
        Checks.refused("6: beyond it, and too warm", Checks.ARGUMENT, s, t -> t.pass(51, 41, 0));
        Checks.equal("6: up to hour 20000", s.pass(50, 20, 0), 0);
        Checks.equal("6: hour", s.many(0), 20000);
        Checks.refused("6: one more", Checks.STATE, s, t -> t.pass(1, 20, 0));
        Checks.refused("6: none more", Checks.ARGUMENT, s, t -> t.pass(0, 20, 0));
    }

    private static void promise6BasketsSpoil() {
        Station s = new Station();
        s.farm(10);
        s.bed(40);
        s.bring(0, 50, 100);
        s.bring(0, 60, 100);
        s.bring(0, 70, 100);
        s.pass(1, 0, 0);
        s.bring(0, 80, 100);
        s.pulp(1, 0);
        s.whole(2, 0);
        Checks.equal("6: none is spoilt in 24 hours", s.pass(23, 0, 0), 0);
        Checks.equal("6: age of one that waits", s.ofBasket(0, 4), 24);
        Checks.equal("6: it waits", s.ofBasket(0, 3), 0);
        Checks.equal("6: one is spoilt in the 25th", s.pass(1, 0, 0), 1);
        Checks.equal("6: it is spoilt", s.ofBasket(0, 3), 3);
        Checks.equal("6: what it held", s.ofBasket(0, 1), 50);
        Checks.equal("6: lost, with the half that was pulped", s.many(13), 30 + 50);
        Checks.equal("6: the younger waits", s.ofBasket(3, 3), 0);
        Checks.equal("6: what waits", s.many(8), 80);
        Checks.equal("6: the younger is spoilt, too", s.pass(100, 0, 0), 1);
        Checks.equal("6: age as it was by then", s.ofBasket(0, 4), 25);
        Checks.equal("6: age of the younger by then", s.ofBasket(3, 4), 25);
        Checks.equal("6: age of the pulped one", s.ofBasket(1, 4), 1);
        Checks.equal("6: age of the one dried whole", s.ofBasket(2, 4), 1);
        Checks.equal("6: all lost", s.many(13), 30 + 50 + 80);
    }

    private static void promise6TanksFerment() {
        Station s = new Station();
        s.farm(10);
        for (int i = 0; i < 6; i++) {
            s.bring(0, 199, 100);
        }
        s.pulp(0, 0);
        s.pulp(1, 1);
        s.pulp(2, 1);
        s.pass(1, 39, 7);
        // Of 99 kilos none, of 198 one, beside the nine of 39 degrees.
        Checks.equal("6: points of 99 kilos", s.ofTank(0, 3), 9);
        Checks.equal("6: points of 198 kilos", s.ofTank(1, 3), 10);
        Checks.equal("6: age of a tank", s.ofTank(1, 2), 1);
        Checks.equal("6: no points without a mix", s.ofTank(2, 3), 0);
        Checks.equal("6: no age without a mix", s.ofTank(2, 2), 0);
        s.pulp(3, 1);
        s.pulp(4, 2);
        s.pass(2, 3, 0);
        Checks.equal("6: points of 297 kilos in the cold", s.ofTank(1, 3), 14);
        Checks.equal("6: points of 99 kilos in the cold", s.ofTank(0, 3), 9);
        Checks.equal("6: an age of its own", s.ofTank(2, 2), 2);
        Checks.equal("6: an older age", s.ofTank(0, 2), 3);
        s.pass(1, 4, 0);
        Checks.equal("6: one point of 4 degrees", s.ofTank(0, 3), 10);
    }

    private static void promise6BedsDryByDay() {
        Station s = new Station();
        s.farm(10);
        s.bed(10);
        s.bed(10);
        s.whole(s.bring(0, 100, 100), 0);
        // 20 degrees are 200, by 10 and 10: 10 in each hour of a day.
        int[][] hoursAndMoistures = {{7, 600}, {1, 590}, {1, 580}, {7, 510}, {1, 500}, {1, 500}, {13, 500}, {1, 490}};
        for (int[] row : hoursAndMoistures) {
            s.pass(row[0], 20, 0);
            Checks.equal("6: moisture at hour " + s.many(0), s.ofBed(0, 4), row[1]);
        }
        Checks.equal("6: unturned", s.ofBed(0, 5), 32);
        Checks.equal("6: an empty bed has no moisture", s.ofBed(1, 4), 0);
        Checks.equal("6: an empty bed is not unturned", s.ofBed(1, 5), 0);
        s.cover(0, true);
        s.pass(1, 20, 0);
        Checks.equal("6: a quarter for a covered one", s.ofBed(0, 4), 488);
        s.pass(1, 7, 0);
        Checks.equal("6: a quarter of 3 is nothing", s.ofBed(0, 4), 488);
    }

    private static void promise6BedsDryByDepth() {
        Station s = new Station();
        s.farm(10);
        s.bed(20);
        s.bed(5);
        s.bed(40);
        s.pass(7, 0, 0);
        s.whole(s.bring(0, 39, 100), 0);
        s.whole(s.bring(0, 60, 100), 1);
        s.whole(s.bring(0, 39, 100), 2);
        s.pass(1, 11, 0);
        // 39 / 20 is 1, 60 / 5 is 12, 39 / 40 is 0: 110 by 11, 22, and 10.
        Checks.equal("6: 110 by 11", s.ofBed(0, 4), 590);
        Checks.equal("6: 110 by 22", s.ofBed(1, 4), 595);
        Checks.equal("6: 110 by 10", s.ofBed(2, 4), 589);
        s.pass(1, 0, 0);
        Checks.equal("6: nothing dries without warmth", s.ofBed(2, 4), 589);
    }

    private static void promise6BedsInRain() {
        Station s = new Station();
        s.farm(10);
        s.bed(40);
        s.bed(40);
        s.pass(7, 0, 0);
        s.pulp(s.bring(0, 60, 100), 0);
        s.wash(0, 0, false);
        s.whole(s.bring(0, 30, 100), 1);
        s.cover(1, true);
        s.pass(1, 20, 1);
        Checks.equal("6: rain by day, no drying", s.ofBed(0, 4), 551);
        Checks.equal("6: a covered one dries in rain", s.ofBed(1, 4), 595);
        s.pass(2, 20, 20);
        Checks.equal("6: rain adds up", s.ofBed(0, 4), 591);
        s.pass(1, 20, 20);
        Checks.equal("6: 600 at most", s.ofBed(0, 4), 600);
        s.pass(7, 0, 0);
        s.pass(1, 10, 0);
        Checks.equal("6: no drying at 19", s.ofBed(0, 4), 600);
        s.pass(13, 10, 0);
        s.pass(7, 40, 0);
        Checks.equal("6: dried by day", s.ofBed(0, 4), 600 - 10 - 7 * 40);
        s.pass(5, 40, 3);
        Checks.equal("6: rain by day and by night", s.ofBed(0, 4), 310 + 15);
        s.cover(0, true);
        s.pass(1, 40, 20);
        Checks.equal("6: no rain on a covered one, by night", s.ofBed(0, 4), 325);
    }

    private static void promise6MoistureHasAFloor() {
        Station s = new Station();
        s.farm(10);
        s.bed(40);
        s.whole(s.bring(0, 30, 100), 0);
        s.pass(7, 0, 0);
        s.pass(10, 40, 0);
        s.pass(14, 0, 0);
        s.pass(2, 40, 0);
        s.pass(1, 39, 0);
        Checks.equal("6: moisture 81", s.ofBed(0, 4), 81);
        s.pass(1, 1, 0);
        Checks.equal("6: moisture 80", s.ofBed(0, 4), 80);
        s.pass(1, 40, 0);
        Checks.equal("6: 80 at least", s.ofBed(0, 4), 80);
        s.pass(1, 40, 2);
        Checks.equal("6: wet again", s.ofBed(0, 4), 82);
    }

    private static void promise6Mould() {
        Checks.equal("6: mould at moisture 251", mouldAfter(34), 1);
        Checks.equal("6: no mould at moisture 250", mouldAfter(35), 0);
        Station s = new Station();
        s.farm(10);
        s.bed(40);
        s.whole(s.bring(0, 30, 100), 0);
        s.pass(11, 0, 0);
        Checks.equal("6: no mould in 11 hours", s.ofBed(0, 6), 0);
        s.pass(1, 0, 0);
        Checks.equal("6: mould in the 12th", s.ofBed(0, 6), 1);
        s.pass(11, 0, 0);
        Checks.equal("6: no more by the 23rd", s.ofBed(0, 6), 1);
        s.turn(0);
        s.pass(11, 0, 0);
        Checks.equal("6: turned in time", s.ofBed(0, 6), 1);
        s.pass(1, 0, 0);
        Checks.equal("6: turned too early", s.ofBed(0, 6), 2);
        s.cover(0, true);
        s.pass(24, 0, 20);
        Checks.equal("6: mould under a cover", s.ofBed(0, 6), 4);
        Checks.equal("6: unturned goes on", s.ofBed(0, 5), 36);
    }

    /** The mould of a bed 12 hours after it was turned, with a last hour as warm as told. */
    private static int mouldAfter(int lastWarmth) {
        Station s = new Station();
        s.farm(10);
        s.bed(40);
        s.whole(s.bring(0, 30, 100), 0);
        s.pass(5, 0, 0);
        s.turn(0);
        s.pass(11, 35, 0);
        s.pass(1, lastWarmth, 0);
        Checks.equal("6: unturned then", s.ofBed(0, 5), 12);
        Checks.equal("6: moisture then", s.ofBed(0, 4), 600 - 9 * 35 - lastWarmth);
        return s.ofBed(0, 6);
    }

    private static void promise6LotsAge() {
        Station s = new Station();
        s.farm(10);
        s.bed(40);
        s.pass(23, 0, 0);
        int first = Checks.naturalLot(s, 0, 90, 0);
        s.pass(1, 0, 0);
        int second = Checks.naturalLot(s, 0, 90, 0);
        Checks.equal("6: a day older", s.ofLot(first, 8), 1);
        s.pass(23, 0, 0);
        Checks.equal("6: no day older yet", s.ofLot(first, 8), 1);
        Checks.equal("6: not a day old", s.ofLot(second, 8), 0);
        s.pass(25, 0, 0);
        Checks.equal("6: three days", s.ofLot(first, 8), 3);
        Checks.equal("6: two days", s.ofLot(second, 8), 2);
        s.cup(first, 0);
        s.sell(first, 1, false);
        s.pass(24, 0, 0);
        Checks.equal("6: what is sold ages no more", s.ofLot(first, 8), 3);
        Checks.equal("6: what is in store does", s.ofLot(second, 8), 3);
    }
}
