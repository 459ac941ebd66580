/** Promises 7 to 13. */
public final class TanksAndBedsTest {
    private static final int[] NO_BASKETS = {-1, 2, 20, Integer.MIN_VALUE, Integer.MAX_VALUE};

    public static void main(String[] args) {
        promise7Bed();
        promise8PulpMixes();
        promise8PulpHasRoomAndTime();
        promise8PulpRefuses();
        promise9WashAndHoney();
        promise9WashRefuses();
        promise9HoneyOnlyBelow30();
        promise10Whole();
        promise10WholeRefuses();
        promise11Turn();
        promise12Cover();
        promise13StoreHalves();
        promise13StoreThirds();
        promise13StoreRefuses();
        promise13TwelveLots();
        Checks.end();
    }

    private static void promise7Bed() {
        Station s = new Station();
        for (int area : new int[] {4, 41, 0, -5, Integer.MIN_VALUE, Integer.MAX_VALUE}) {
            Checks.refused("7: bed(" + area + ")", Checks.ARGUMENT, s, t -> t.bed(area));
        }
        int[] areas = {5, 40, 17, 6, 39};
        for (int i = 0; i < 5; i++) {
            Checks.equal("7: number of bed " + i, s.bed(areas[i]), i);
            Checks.equal("7: beds", s.many(3), i + 1);
        }
        for (int i = 0; i < 5; i++) {
            Checks.equal("7: area of bed " + i, s.ofBed(i, 0), areas[i]);
            for (int what = 1; what <= 7; what++) {
                Checks.equal("7: ofBed(" + i + ", " + what + ")", s.ofBed(i, what), 0);
            }
        }
        Checks.refused("7: a 6th bed", Checks.STATE, s, t -> t.bed(5));
        Checks.refused("7: a 6th bed of a wrong area", Checks.ARGUMENT, s, t -> t.bed(4));
    }

    private static void promise8PulpMixes() {
        Station s = new Station();
        s.farm(10);
        s.farm(11);
        s.label(1, 5);
        s.bring(0, 101, 100);
        s.bring(1, 60, 51);
        Checks.equal("8: half of 101", s.pulp(0, 2), 50);
        Checks.equal("8: the rest is lost", s.many(13), 51);
        Checks.equal("8: ripe", s.ofTank(2, 1), 100);
        Checks.equal("8: none certified", s.ofTank(2, 4), 0);
        // 60 times 49 by 200 is 14, so 46 are held, 23 come in: (50 * 100 + 23 * 51) / 73 is 84.5.
        Checks.equal("8: with half of 46", s.pulp(1, 2), 73);
        Checks.equal("8: mean ripe, rounded down", s.ofTank(2, 1), 84);
        Checks.equal("8: certified ones", s.ofTank(2, 4), 23);
        Checks.equal("8: lost", s.many(13), 51 + 23);
        Checks.equal("8: kilos in tanks", s.many(9), 73);
        Checks.equal("8: pulped", s.ofBasket(1, 3), 1);
        Checks.equal("8: what it held as it was pulped", s.ofBasket(1, 1), 46);
        Checks.equal("8: nothing waits", s.many(8), 0);
        Checks.equal("8: other tanks are empty", s.ofTank(0, 0) + s.ofTank(1, 0), 0);
        Checks.refused("8: pulped twice", Checks.STATE, s, t -> t.pulp(0, 0));
        s.bed(40);
        s.wash(2, 0, false);
        s.store(0);
        Checks.equal("8: kilos of farm 0", s.kilosOf(0, 0), 25);
        Checks.equal("8: kilos of farm 1", s.kilosOf(0, 1), 11);
    }

    private static void promise8PulpHasRoomAndTime() {
        Station s = new Station();
        s.farm(10);
        s.bed(40);
        for (int i = 0; i < 3; i++) {
            s.bring(0, 200, 100);
        }
        s.bring(0, 2, 100);
        s.pulp(0, 0);
        s.pulp(1, 0);
        Checks.equal("8: 300 have room", s.pulp(2, 0), 300);
        Checks.refused("8: 301 have none", Checks.STATE, s, t -> t.pulp(3, 0));
        Checks.equal("8: but in another tank", s.pulp(3, 1), 1);
        Checks.equal("8: ripe of a single kilo", s.ofTank(1, 1), 100);
        s.bring(0, 20, 100);
        s.bring(0, 20, 100);
        s.pass(8, 20, 0);
        Checks.equal("8: at an age of 8", s.pulp(4, 1), 11);
        Checks.equal("8: the age stays", s.ofTank(1, 2), 8);
        Checks.equal("8: the points stay", s.ofTank(1, 3), 40);
        s.pass(1, 20, 0);
        Checks.refused("8: not at an age of 9", Checks.STATE, s, t -> t.pulp(5, 1));
        s.wash(1, 0, false);
        Checks.equal("8: a tank that was emptied", s.pulp(5, 1), 10);
        Checks.equal("8: begins with an age of 0", s.ofTank(1, 2), 0);
        Checks.equal("8: and without points", s.ofTank(1, 3), 0);
    }

    private static void promise8PulpRefuses() {
        Station s = new Station();
        s.farm(10);
        s.bring(0, 1, 100);
        s.bring(0, 50, 100);
        s.pass(20, 0, 0);
        for (int basket : NO_BASKETS) {
            Checks.refused("8: pulp(" + basket + ", 0)", Checks.INDEX, s, t -> t.pulp(basket, 0));
        }
        for (int tank : new int[] {-1, 3, Integer.MIN_VALUE, Integer.MAX_VALUE}) {
            Checks.refused("8: pulp(1, " + tank + ")", Checks.INDEX, s, t -> t.pulp(1, tank));
            Checks.refused("8: of a kilo, pulp(0, " + tank + ")", Checks.INDEX, s, t -> t.pulp(0, tank));
        }
        Checks.refused("8: half of a kilo", Checks.STATE, s, t -> t.pulp(0, 0));
        s.pass(5, 0, 0);
        Checks.refused("8: a spoilt one", Checks.STATE, s, t -> t.pulp(1, 0));
        s.bed(40);
        s.whole(s.bring(0, 50, 100), 0);
        Checks.refused("8: one dried whole", Checks.STATE, s, t -> t.pulp(2, 0));
    }

    private static void promise9WashAndHoney() {
        Station s = new Station();
        s.farm(10);
        s.label(0, 100);
        s.bed(10);
        s.bed(10);
        s.pulp(s.bring(0, 200, 80), 0);
        s.pulp(s.bring(0, 60, 100), 1);
        s.pass(2, 20, 0);
        Checks.equal("9: kilos washed", s.wash(0, 0, false), 90);
        int[] washed = {10, 0, 90, 0, 550, 0, 0, 10};
        for (int what = 0; what <= 7; what++) {
            Checks.equal("9: ofBed(0, " + what + ") of washed ones", s.ofBed(0, what), washed[what]);
        }
        for (int what = 0; what <= 4; what++) {
            Checks.equal("9: ofTank(0, " + what + ") then", s.ofTank(0, what), 0);
        }
        Checks.equal("9: water", s.many(14), 270);
        Checks.equal("9: kilos of honey", s.wash(1, 1, true), 30);
        int[] honey = {10, 0, 30, 1, 570, 0, 0, 10};
        for (int what = 0; what <= 7; what++) {
            Checks.equal("9: ofBed(1, " + what + ") of honey", s.ofBed(1, what), honey[what]);
        }
        Checks.equal("9: no water for honey", s.many(14), 270);
        Checks.equal("9: kilos on beds", s.many(10), 120);
        Checks.equal("9: none in tanks", s.many(9), 0);
        s.store(0);
        Checks.equal("9: ripe and certified come along", s.ofLot(0, 4) * 100 + s.ofLot(0, 3), 80 * 100 + 45);
        s.pulp(s.bring(0, 60, 100), 1);
        s.wash(1, 0, false);
        Checks.equal("9: another mix on the bed", s.ofBed(0, 2), 30);
        s.store(0);
        Checks.equal("9: nothing is left of the first", s.ofLot(1, 4) * 100 + s.ofLot(1, 0), 100 * 100 + 15);
    }

    private static void promise9WashRefuses() {
        Station s = new Station();
        s.farm(10);
        Checks.refused("9: wash without beds", Checks.INDEX, s, t -> t.wash(0, 0, false));
        s.bed(5);
        s.bed(5);
        s.pulp(s.bring(0, 120, 100), 0);
        s.pulp(s.bring(0, 122, 100), 1);
        for (int tank : new int[] {-1, 3, Integer.MIN_VALUE, Integer.MAX_VALUE}) {
            Checks.refused("9: wash(" + tank + ", 0)", Checks.INDEX, s, t -> t.wash(tank, 0, false));
        }
        for (int bed : new int[] {-1, 2, 5, Integer.MIN_VALUE, Integer.MAX_VALUE}) {
            Checks.refused("9: wash(0, " + bed + ")", Checks.INDEX, s, t -> t.wash(0, bed, false));
            Checks.refused("9: of an empty one, wash(2, " + bed + ")", Checks.INDEX, s, t -> t.wash(2, bed, true));
        }
        Checks.refused("9: an empty tank", Checks.STATE, s, t -> t.wash(2, 0, false));
        Checks.refused("9: honey of an empty tank", Checks.STATE, s, t -> t.wash(2, 0, true));
        Checks.refused("9: 61 kilos on an area of 5", Checks.STATE, s, t -> t.wash(1, 0, false));
        Checks.equal("9: 60 kilos on it", s.wash(0, 0, false), 60);
        s.pulp(s.bring(0, 20, 100), 0);
        Checks.refused("9: onto a bed that is not empty", Checks.STATE, s, t -> t.wash(0, 0, false));
        Checks.equal("9: onto an empty one", s.wash(0, 1, true), 10);
    }

    private static void promise9HoneyOnlyBelow30() {
        Station s = new Station();
        s.farm(10);
        s.bed(40);
        s.bed(40);
        s.pulp(s.bring(0, 20, 100), 0);
        s.pass(28, 4, 0);
        s.pulp(s.bring(0, 20, 100), 1);
        s.pass(1, 4, 0);
        Checks.equal("9: points 29", s.ofTank(0, 3), 29);
        s.pass(1, 4, 0);
        Checks.refused("9: no honey with 30 points", Checks.STATE, s, t -> t.wash(0, 0, true));
        Checks.equal("9: but washed ones", s.wash(0, 0, false), 10);
        s.pass(27, 4, 0);
        Checks.equal("9: points 29 again", s.ofTank(1, 3), 29);
        Checks.equal("9: honey with 29 points", s.wash(1, 1, true), 10);
        Checks.equal("9: its points", s.ofBed(1, 7), 29);
    }

    private static void promise10Whole() {
        Station s = new Station();
        s.farm(10);
        s.label(0, 0);
        s.bed(5);
        s.bring(0, 68, 76);
        s.pass(3, 0, 0);
        // 68 times 24 by 200 is 8, so 60 are held, which is 12 times 5.
        Checks.equal("10: all of it", s.whole(0, 0), 60);
        int[] due = {5, 0, 60, 2, 600, 0, 0, 0};
        for (int what = 0; what <= 7; what++) {
            Checks.equal("10: ofBed(0, " + what + ")", s.ofBed(0, what), due[what]);
        }
        Checks.equal("10: dried whole", s.ofBasket(0, 3), 2);
        Checks.equal("10: what it held", s.ofBasket(0, 1), 60);
        Checks.equal("10: its age by then", s.ofBasket(0, 4), 3);
        Checks.equal("10: nothing lost", s.many(13), 0);
        Checks.equal("10: nothing waits", s.many(8), 0);
        s.pass(30, 0, 0);
        s.store(0);
        Checks.equal("10: its mould", s.ofLot(0, 6), 2);
        Checks.equal("10: its ripe", s.ofLot(0, 4), 76);
        Checks.equal("10: its certified kilos", s.ofLot(0, 3), 20);
        s.whole(s.bring(0, 30, 100), 0);
        Checks.equal("10: no mould at the start", s.ofBed(0, 6), 0);
        Checks.equal("10: unturned 0 at the start", s.ofBed(0, 5), 0);
        s.bed(5);
        Checks.equal("10: a single kilo", s.whole(s.bring(0, 1, 0), 1), 1);
        Checks.equal("10: kilos on the bed", s.ofBed(1, 2), 1);
    }

    private static void promise10WholeRefuses() {
        Station s = new Station();
        s.farm(10);
        s.bring(0, 61, 100);
        s.bring(0, 50, 100);
        Checks.refused("10: whole without beds", Checks.INDEX, s, t -> t.whole(0, 0));
        s.bed(5);
        for (int basket : NO_BASKETS) {
            Checks.refused("10: whole(" + basket + ", 0)", Checks.INDEX, s, t -> t.whole(basket, 0));
        }
        for (int bed : new int[] {-1, 1, 5, Integer.MIN_VALUE, Integer.MAX_VALUE}) {
            Checks.refused("10: whole(0, " + bed + ")", Checks.INDEX, s, t -> t.whole(0, bed));
        }
        Checks.refused("10: 61 on an area of 5", Checks.STATE, s, t -> t.whole(0, 0));
        s.whole(1, 0);
        Checks.refused("10: twice", Checks.STATE, s, t -> t.whole(1, 0));
        s.bring(0, 2, 100);
        Checks.refused("10: onto a bed that is not empty", Checks.STATE, s, t -> t.whole(2, 0));
        s.store(0);
        Checks.refused("10: one that is dried already", Checks.STATE, s, t -> t.whole(1, 0));
        s.pulp(2, 0);
        Checks.refused("10: one that is pulped", Checks.STATE, s, t -> t.whole(2, 0));
        s.bring(0, 3, 100);
        s.pass(25, 0, 0);
        Checks.refused("10: one that is spoilt", Checks.STATE, s, t -> t.whole(3, 0));
        Checks.refused("10: one that is spoilt, onto no bed", Checks.INDEX, s, t -> t.whole(3, 1));
    }

    private static void promise11Turn() {
        Station s = new Station();
        s.farm(10);
        Checks.refused("11: turn without beds", Checks.INDEX, s, t -> t.turn(0));
        s.bed(40);
        s.bed(40);
        Checks.refused("11: an empty bed", Checks.STATE, s, t -> t.turn(0));
        s.whole(s.bring(0, 50, 100), 0);
        s.whole(s.bring(0, 50, 100), 1);
        s.pass(5, 10, 3);
        for (int bed : new int[] {-1, 2, 5, Integer.MIN_VALUE, Integer.MAX_VALUE}) {
            Checks.refused("11: turn(" + bed + ")", Checks.INDEX, s, t -> t.turn(bed));
        }
        Checks.equal("11: unturned before", s.turn(0), 5);
        Checks.equal("11: unturned after", s.ofBed(0, 5), 0);
        Checks.equal("11: the other bed", s.ofBed(1, 5), 5);
        Checks.equal("11: again", s.turn(0), 0);
        s.pass(2, 10, 0);
        Checks.equal("11: two hours later", s.turn(0), 2);
        s.store(0);
        Checks.refused("11: emptied", Checks.STATE, s, t -> t.turn(0));
    }

    private static void promise12Cover() {
        Station s = new Station();
        s.farm(10);
        Checks.refused("12: cover without beds", Checks.INDEX, s, t -> t.cover(0, true));
        s.bed(40);
        s.bed(40);
        for (int bed : new int[] {-1, 2, 5, Integer.MIN_VALUE, Integer.MAX_VALUE}) {
            Checks.refused("12: cover(" + bed + ", true)", Checks.INDEX, s, t -> t.cover(bed, true));
        }
        Checks.equal("12: not at first", s.cover(0, false), false);
        Checks.equal("12: not yet", s.cover(0, true), false);
        Checks.equal("12: covered", s.ofBed(0, 1), 1);
        Checks.equal("12: the other is not", s.ofBed(1, 1), 0);
        Checks.equal("12: it was", s.cover(0, true), true);
        s.whole(s.bring(0, 50, 100), 0);
        Checks.equal("12: covered with a mix", s.ofBed(0, 1), 1);
        s.store(0);
        Checks.equal("12: covered as it is empty again", s.ofBed(0, 1), 1);
        Checks.equal("12: it was until now", s.cover(0, false), true);
        Checks.equal("12: uncovered", s.ofBed(0, 1), 0);
    }

    private static void promise13StoreHalves() {
        Station s = new Station();
        s.farm(10);
        s.farm(12);
        s.label(1, 9);
        s.bed(40);
        s.pulp(s.bring(0, 102, 100), 0);
        s.pulp(s.bring(1, 14, 100), 0);
        s.label(1, -1);
        s.pulp(s.bring(1, 22, 100), 0);
        s.pass(30, 8, 0);
        s.wash(0, 0, false);
        s.pass(14, 10, 0);
        int lost = s.many(13);
        Checks.equal("13: lot", s.store(0), 0);
        // 51 kilos and 18, of which 7 are certified.
        int[] due = {25 + 9, 0, 1, 3, 100, 60, 1, 550 - 10 * 9, 0, -1};
        for (int what = 0; what <= 9; what++) {
            Checks.equal("13: ofLot(0, " + what + ")", s.ofLot(0, what), due[what]);
        }
        Checks.equal("13: of farm 0", s.kilosOf(0, 0), 25);
        Checks.equal("13: of farm 1", s.kilosOf(0, 1), 9);
        Checks.equal("13: lost", s.many(13) - lost, 26 + 9);
        for (int what = 1; what <= 7; what++) {
            Checks.equal("13: ofBed(0, " + what + ") then", s.ofBed(0, what), 0);
        }
        Checks.equal("13: lots", s.many(4), 1);
        Checks.equal("13: in store", s.many(5), 1);
    }

    private static void promise13StoreThirds() {
        Station s = new Station();
        s.farm(10);
        s.label(0, 9);
        s.bed(40);
        s.bed(40);
        s.whole(s.bring(0, 50, 100), 0);
        Checks.equal("13: lot of natural ones", s.store(0), 0);
        Checks.equal("13: a third of 50", s.ofLot(0, 0), 16);
        Checks.equal("13: a third of the certified ones", s.ofLot(0, 3), 16);
        Checks.equal("13: the rest is lost", s.many(13), 34);
        s.pulp(s.bring(0, 50, 100), 0);
        s.wash(0, 1, true);
        Checks.equal("13: lot of honey", s.store(1), 1);
        Checks.equal("13: half of 25", s.ofLot(1, 0), 12);
        Checks.equal("13: method of honey", s.ofLot(1, 1), 1);
    }

    private static void promise13StoreRefuses() {
        Station s = new Station();
        s.farm(10);
        s.farm(10);
        Checks.refused("13: store without beds", Checks.INDEX, s, t -> t.store(0));
        s.bed(40);
        for (int bed : new int[] {-1, 1, 5, Integer.MIN_VALUE, Integer.MAX_VALUE}) {
            Checks.refused("13: store(" + bed + ")", Checks.INDEX, s, t -> t.store(bed));
        }
        Checks.refused("13: an empty bed", Checks.STATE, s, t -> t.store(0));
        s.pulp(s.bring(0, 2, 100), 0);
        s.pulp(s.bring(1, 2, 100), 0);
        s.wash(0, 0, false);
        Checks.equal("13: two kilos of two farms", s.ofBed(0, 2), 2);
        Checks.refused("13: half a kilo of each", Checks.STATE, s, t -> t.store(0));
        s.bed(5);
        s.whole(s.bring(0, 2, 100), 1);
        Checks.refused("13: a third of 2", Checks.STATE, s, t -> t.store(1));
        s.bed(5);
        s.whole(s.bring(0, 3, 100), 2);
        Checks.equal("13: a third of 3", s.store(2), 0);
        Checks.equal("13: is one", s.ofLot(0, 0), 1);
    }

    private static void promise13TwelveLots() {
        Station s = new Station();
        s.farm(10);
        s.bed(40);
        for (int i = 0; i < 12; i++) {
            Checks.equal("13: number of a lot", Checks.naturalLot(s, 0, 30 + 3 * i, 0), i);
        }
        for (int i = 0; i < 12; i++) {
            Checks.equal("13: kilos of lot " + i, s.ofLot(i, 0), 10 + i);
        }
        s.whole(s.bring(0, 30, 100), 0);
        Checks.refused("13: a 13th lot", Checks.STATE, s, t -> t.store(0));
        s.cup(0, 0);
        s.sell(0, 1, false);
        Checks.refused("13: sold ones count too", Checks.STATE, s, t -> t.store(0));
        Checks.refused("13: a 13th lot of no bed", Checks.INDEX, s, t -> t.store(1));
    }
}
