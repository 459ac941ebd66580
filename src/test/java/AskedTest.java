/** Promises 18 to 25. */
public final class AskedTest {
    private static final int[] WILD = {Integer.MIN_VALUE, -1, 100, Integer.MAX_VALUE};

    public static void main(String[] args) {
        promise18OfFarm();
        promise19OfBasket();
        promise20OfTank();
        promise21OfBed();
        promise22OfLot();
        promise23KilosOf();
        promise24Many();
        promise25MeanScore();
        refusals();
        Checks.end();
    }

    private static void row(String what, int[] got, int... due) {
        Checks.equal(what + ", how many", got.length, due.length);
        for (int i = 0; i < due.length; i++) {
            Checks.equal(what + " of " + i, got[i], due[i]);
        }
    }

    private static int[] farm(Station s, int farm) {
        int[] got = new int[5];
        for (int what = 0; what < got.length; what++) {
            got[what] = s.ofFarm(farm, what);
        }
        return got;
    }

    private static int[] basket(Station s, int basket) {
        int[] got = new int[6];
        for (int what = 0; what < got.length; what++) {
            got[what] = s.ofBasket(basket, what);
        }
        return got;
    }

    private static int[] tank(Station s, int tank) {
        int[] got = new int[5];
        for (int what = 0; what < got.length; what++) {
            got[what] = s.ofTank(tank, what);
        }
        return got;
    }

    private static int[] bed(Station s, int bed) {
        int[] got = new int[8];
        for (int what = 0; what < got.length; what++) {
            got[what] = s.ofBed(bed, what);
        }
        return got;
    }

    private static int[] lot(Station s, int lot) {
        int[] got = new int[12];
        for (int what = 0; what < got.length; what++) {
            got[what] = s.ofLot(lot, what);
        }
        return got;
    }

    private static int[] many(Station s) {
        int[] got = new int[16];
        for (int what = 0; what < got.length; what++) {
            got[what] = s.many(what);
        }
        return got;
    }

    private static void promise18OfFarm() {
        Station s = new Station();
        s.farm(14);
        s.farm(19);
        s.bed(40);
        s.label(1, 33);
        s.price(10);
        s.bring(0, 50, 60);
        s.bring(1, 90, 100);
        s.bring(1, 60, 100);
        row("18: farm 0", farm(s, 0), 14, -1, 400, 40, 0);
        row("18: farm 1", farm(s, 1), 19, 33, 1500, 150, 0);
        s.whole(1, 0);
        s.store(0);
        s.whole(2, 0);
        s.store(0);
        row("18: farm 1 with two lots", farm(s, 1), 19, 33, 1500, 150, 50);
        s.cup(0, 0);
        s.sell(0, 10, false);
        row("18: farm 1 with one sold", farm(s, 1), 19, 33, 1500 + 120, 150, 20);
        s.pass(25, 0, 0);
        row("18: farm 0 with what is spoilt", farm(s, 0), 14, -1, 400, 40, 0);
    }

    private static void promise19OfBasket() {
        Station s = new Station();
        s.farm(14);
        s.farm(19);
        s.bed(40);
        s.label(1, 0);
        for (int farm : new int[] {1, 0, 1, 0}) {
            s.bring(farm, 50, 20 + 60 * farm);
        }
        // Of 50 with 20 ripe 20 float, with 80 ripe 5.
        row("19: waits", basket(s, 0), 1, 45, 80, 0, 0, 1);
        s.pass(2, 0, 0);
        s.pulp(1, 0);
        s.pass(3, 0, 0);
        s.whole(2, 0);
        s.pass(30, 0, 0);
        row("19: spoilt", basket(s, 0), 1, 45, 80, 3, 25, 1);
        row("19: pulped", basket(s, 1), 0, 30, 20, 1, 2, 0);
        row("19: dried whole", basket(s, 2), 1, 45, 80, 2, 5, 1);
        row("19: spoilt, too", basket(s, 3), 0, 30, 20, 3, 25, 0);
    }

    private static void promise20OfTank() {
        Station s = new Station();
        s.farm(14);
        s.label(0, 0);
        s.bed(40);
        s.pulp(s.bring(0, 200, 100), 1);
        s.label(0, -1);
        s.pulp(s.bring(0, 100, 0), 1);
        s.pass(4, 23, 0);
        row("20: tank 0", tank(s, 0), 0, 0, 0, 0, 0);
        row("20: tank 1", tank(s, 1), 125, 80, 4, 24, 100);
        row("20: tank 2", tank(s, 2), 0, 0, 0, 0, 0);
        s.wash(1, 0, true);
        row("20: tank 1, emptied", tank(s, 1), 0, 0, 0, 0, 0);
    }

    private static void promise21OfBed() {
        Station s = new Station();
        s.farm(14);
        s.bed(40);
        s.bed(8);
        s.bed(9);
        s.cover(1, true);
        s.pulp(s.bring(0, 100, 100), 1);
        s.pass(3, 8, 0);
        s.wash(1, 1, true);
        s.pass(15, 2, 1);
        s.whole(s.bring(0, 100, 100), 0);
        // 50 on an area of 8 are 6: 20 by 16 is 1, and a quarter of that nothing.
        row("21: bed 0", bed(s, 0), 40, 0, 100, 2, 600, 0, 0, 0);
        row("21: bed 1", bed(s, 1), 8, 1, 50, 1, 570, 15, 1, 6);
        row("21: bed 2", bed(s, 2), 9, 0, 0, 0, 0, 0, 0, 0);
        s.store(1);
        row("21: bed 1, emptied", bed(s, 1), 8, 1, 0, 0, 0, 0, 0, 0);
    }

    private static void promise22OfLot() {
        Station s = new Station();
        s.farm(14);
        s.farm(21);
        s.bed(40);
        s.label(0, 0);
        s.pulp(s.bring(0, 60, 100), 1);
        s.pulp(s.bring(1, 100, 80), 1);
        s.pass(5, 20, 0);
        s.wash(1, 0, true);
        s.pass(2, 0, 0);
        s.turn(0);
        s.pass(24, 0, 0);
        s.pass(100, 39, 0);
        s.store(0);
        // 30 and 45 kilos: ripe (3000 + 45 * 80) by 75 is 88, and 15 and 22 are left: 672 by 37 is 18.
        int moisture = s.ofLot(0, 7);
        int mould = s.ofLot(0, 6);
        Checks.equal("22: mould", mould, 2);
        Checks.equal("22: moisture", moisture, 80);
        row("22: lot 0", lot(s, 0), 37, 1, 1, 15, 88, 25, 2, 80, 0, -1, 68 + 18 + 1 - 2 - 2 - 3, 4);
        s.pass(100, 0, 0);
        s.cup(0, 1);
        row("22: lot 0, cupped", lot(s, 0), 37, 1, 1, 15, 88, 25, 2, 80, 4, 80, 80, 4);
        s.sell(0, 3, true);
        row("22: lot 0, sold", lot(s, 0), 37, 1, 0, 15, 88, 25, 2, 80, 4, 80, 80, 4);
    }

    private static void promise23KilosOf() {
        Station s = new Station();
        s.farm(14);
        s.farm(21);
        s.farm(22);
        s.bed(40);
        s.pulp(s.bring(2, 60, 100), 1);
        s.pulp(s.bring(0, 101, 100), 1);
        s.wash(1, 0, true);
        s.store(0);
        row("23: kilos of lot 0", new int[] {s.kilosOf(0, 0), s.kilosOf(0, 1), s.kilosOf(0, 2)}, 25, 0, 15);
        for (int wild : WILD) {
            Checks.refused("23: kilosOf(" + wild + ", 0)", Checks.INDEX, s, t -> t.kilosOf(wild, 0));
            Checks.refused("23: kilosOf(0, " + wild + ")", Checks.INDEX, s, t -> t.kilosOf(0, wild));
        }
        Checks.refused("23: kilosOf(1, 0)", Checks.INDEX, s, t -> t.kilosOf(1, 0));
        Checks.refused("23: kilosOf(0, 3)", Checks.INDEX, s, t -> t.kilosOf(0, 3));
    }

    private static void promise24Many() {
        Station s = new Station();
        s.farm(14);
        s.farm(21);
        s.bed(40);
        s.bed(40);
        s.bed(40);
        s.price(2);
        s.bring(0, 100, 50);
        s.bring(1, 90, 100);
        s.bring(1, 80, 100);
        s.bring(0, 70, 100);
        s.bring(0, 61, 100);
        row("24: five wait", many(s), 0, 2, 5, 3, 0, 0, -752, 25, 376, 0, 0, 0, 0, 0, 0, 752);
        s.pulp(0, 0);
        s.pulp(2, 1);
        s.whole(1, 0);
        s.whole(3, 1);
        row("24: one waits", many(s), 0, 2, 5, 3, 0, 0, -752, 25, 61, 77, 160, 0, 0, 38 + 40, 0, 752);
        s.pass(25, 0, 0);
        s.wash(1, 2, false);
        row("24: one is spoilt", many(s), 25, 2, 5, 3, 0, 0, -752, 25, 0, 37, 200, 0, 0, 139, 120, 752);
        s.store(0);
        s.store(1);
        s.store(2);
        // 90 give 30, 70 give 23, 40 give 20.
        row("24: three lots", many(s), 25, 2, 5, 3, 3, 3, -752, 25, 0, 37, 0, 73, 0, 139 + 60 + 47 + 20, 120, 752);
        s.blend(0, 1);
        row("24: two are blended", many(s), 25, 2, 5, 3, 3, 2, -752, 25, 0, 37, 0, 73, 0, 266, 120, 752);
        s.cup(0, 0);
        s.sell(0, 10, false);
        // 530 are brought, of which 30 of 53 kilos have two fifths: 120, and 23 of them: 92.
        row("24: and sold", many(s), 25, 2, 5, 3, 3, 1, -752 + 318, 25, 0, 37, 0, 20, 53, 266, 120, 752 + 212);
        for (int wild : WILD) {
            Checks.refused("24: many(" + wild + ")", Checks.ARGUMENT, s, t -> t.many(wild));
        }
        Checks.refused("24: many(16)", Checks.ARGUMENT, s, t -> t.many(16));
    }

    private static void promise25MeanScore() {
        Station s = new Station();
        s.farm(20);
        s.farm(10);
        s.bed(40);
        s.bed(40);
        s.bed(40);
        Checks.same("25: without lots", s.meanScore(), 0.0);
        s.whole(s.bring(0, 30, 100), 0);
        s.whole(s.bring(1, 60, 100), 1);
        s.pulp(s.bring(1, 40, 100), 0);
        s.wash(0, 2, true);
        s.cover(2, true);
        s.turn(0);
        s.turn(1);
        for (int i = 0; i < 25; i++) {
            s.pass(8, 30, 0);
            s.turn(0);
            s.turn(1);
        }
        s.store(0);
        s.store(1);
        Checks.equal("25: score of lot 0", s.ofLot(0, 10), 68 + 20 + 2 - 3);
        Checks.equal("25: score of lot 1", s.ofLot(1, 10), 68 + 10 + 2 - 3);
        Checks.same("25: of 10 and 20 kilos", s.meanScore(), (10 * 87 + 20 * 77) / 30.0);
        s.store(2);
        int third = s.ofLot(2, 10);
        Checks.same("25: of three", s.meanScore(), (10 * 87 + 20 * 77 + 10 * third) / 40.0);
        s.cup(0, 0);
        s.sell(0, 1, false);
        Checks.same("25: of those in store", s.meanScore(), (20 * 77 + 10 * third) / 30.0);
        s.cup(1, 0);
        s.sell(1, 1, false);
        Checks.same("25: of one", s.meanScore(), third);
        s.cup(2, 0);
        s.sell(2, 1, false);
        Checks.same("25: of none in store", s.meanScore(), 0.0);
    }

    private static void refusals() {
        Station s = new Station();
        s.farm(20);
        s.bed(40);
        s.bring(0, 50, 100);
        Checks.naturalLot(s, 0, 30, 0);
        for (int wild : WILD) {
            Checks.refused("18: ofFarm(" + wild + ", 0)", Checks.INDEX, s, t -> t.ofFarm(wild, 0));
            Checks.refused("18: ofFarm(" + wild + ", 5)", Checks.INDEX, s, t -> t.ofFarm(wild, 5));
            Checks.refused("18: ofFarm(0, " + wild + ")", Checks.ARGUMENT, s, t -> t.ofFarm(0, wild));
            Checks.refused("19: ofBasket(" + wild + ", 0)", Checks.INDEX, s, t -> t.ofBasket(wild, 0));
            Checks.refused("19: ofBasket(" + wild + ", 6)", Checks.INDEX, s, t -> t.ofBasket(wild, 6));
            Checks.refused("19: ofBasket(0, " + wild + ")", Checks.ARGUMENT, s, t -> t.ofBasket(0, wild));
            Checks.refused("20: ofTank(" + wild + ", 0)", Checks.INDEX, s, t -> t.ofTank(wild, 0));
            Checks.refused("20: ofTank(" + wild + ", 5)", Checks.INDEX, s, t -> t.ofTank(wild, 5));
            Checks.refused("20: ofTank(0, " + wild + ")", Checks.ARGUMENT, s, t -> t.ofTank(0, wild));
            Checks.refused("21: ofBed(" + wild + ", 0)", Checks.INDEX, s, t -> t.ofBed(wild, 0));
            Checks.refused("21: ofBed(" + wild + ", 8)", Checks.INDEX, s, t -> t.ofBed(wild, 8));
            Checks.refused("21: ofBed(0, " + wild + ")", Checks.ARGUMENT, s, t -> t.ofBed(0, wild));
            Checks.refused("22: ofLot(" + wild + ", 0)", Checks.INDEX, s, t -> t.ofLot(wild, 0));
            Checks.refused("22: ofLot(" + wild + ", 12)", Checks.INDEX, s, t -> t.ofLot(wild, 12));
            Checks.refused("22: ofLot(0, " + wild + ")", Checks.ARGUMENT, s, t -> t.ofLot(0, wild));
        }
        Checks.refused("18: ofFarm(1, 0)", Checks.INDEX, s, t -> t.ofFarm(1, 0));
        Checks.refused("18: ofFarm(0, 5)", Checks.ARGUMENT, s, t -> t.ofFarm(0, 5));
        Checks.refused("19: ofBasket(2, 0)", Checks.INDEX, s, t -> t.ofBasket(2, 0));
        Checks.refused("19: ofBasket(0, 6)", Checks.ARGUMENT, s, t -> t.ofBasket(0, 6));
        Checks.refused("20: ofTank(3, 0)", Checks.INDEX, s, t -> t.ofTank(3, 0));
        Checks.refused("20: ofTank(0, 5)", Checks.ARGUMENT, s, t -> t.ofTank(0, 5));
        Checks.refused("21: ofBed(1, 0)", Checks.INDEX, s, t -> t.ofBed(1, 0));
        Checks.refused("21: ofBed(0, 8)", Checks.ARGUMENT, s, t -> t.ofBed(0, 8));
        Checks.refused("22: ofLot(1, 0)", Checks.INDEX, s, t -> t.ofLot(1, 0));
        Checks.refused("22: ofLot(0, 12)", Checks.ARGUMENT, s, t -> t.ofLot(0, 12));
    }
}
