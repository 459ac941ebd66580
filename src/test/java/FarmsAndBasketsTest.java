/** Promises 1 to 5. */
public final class FarmsAndBasketsTest {
    public static void main(String[] args) {
        promise1NewStation();
        promise2Farm();
        promise3Label();
        promise4Price();
        promise5BringFloatsAndPays();
        promise5BringCertifies();
        promise5BringRefuses();
        Checks.end();
    }

    private static void promise1NewStation() {
        Station s = new Station();
        for (int what = 0; what <= 15; what++) {
            Checks.equal("1: many(" + what + ") of a new station", s.many(what), 0);
        }
        for (int tank = 0; tank <= 2; tank++) {
            for (int what = 0; what <= 4; what++) {
                Checks.equal("1: ofTank(" + tank + ", " + what + ") of a new station", s.ofTank(tank, what), 0);
            }
        }
        for (int taster = 0; taster <= 2; taster++) {
            Checks.equal("1: first bias of taster " + taster, s.bias(taster, 0), 0);
        }
        Checks.refused("1: no farm", Checks.INDEX, s, t -> t.ofFarm(0, 0));
        Checks.refused("1: no basket", Checks.INDEX, s, t -> t.ofBasket(0, 0));
        Checks.refused("1: no bed", Checks.INDEX, s, t -> t.ofBed(0, 0));
        Checks.refused("1: no lot", Checks.INDEX, s, t -> t.ofLot(0, 0));
        Checks.equal("1: first price", s.price(1), 5);
    }

    private static void promise2Farm() {
        Station s = new Station();
        for (int height : new int[] {9, 23, 0, -10, Integer.MIN_VALUE, Integer.MAX_VALUE}) {
            Checks.refused("2: farm(" + height + ")", Checks.ARGUMENT, s, t -> t.farm(height));
        }
        int[] heights = {10, 22, 15, 11, 21, 12};
        for (int i = 0; i < 6; i++) {
            Checks.equal("2: number of farm " + i, s.farm(heights[i]), i);
            Checks.equal("2: count of farms", s.many(1), i + 1);
        }
        for (int i = 0; i < 6; i++) {
            Checks.equal("2: height of farm " + i, s.ofFarm(i, 0), heights[i]);
            Checks.equal("2: label of farm " + i, s.ofFarm(i, 1), -1);
            Checks.equal("2: coins of farm " + i, s.ofFarm(i, 2), 0);
        }
        Checks.refused("2: a 7th farm", Checks.STATE, s, t -> t.farm(10));
        Checks.refused("2: a 7th farm of a wrong height", Checks.ARGUMENT, s, t -> t.farm(9));
    }

    private static void promise3Label() {
        Station s = new Station();
        Checks.refused("3: label without farms", Checks.INDEX, s, t -> t.label(0, 0));
        s.farm(10);
        s.farm(20);
        Checks.equal("3: label(1, 900)", s.label(1, 900), -1);
        Checks.equal("3: label(1, 0)", s.label(1, 0), 900);
        Checks.equal("3: label(1, -1)", s.label(1, -1), 0);
        Checks.equal("3: label(1, 7)", s.label(1, 7), -1);
        Checks.equal("3: label of farm 1", s.ofFarm(1, 1), 7);
        Checks.equal("3: label of farm 0 is another", s.ofFarm(0, 1), -1);
        for (int farm : new int[] {-1, 2, 6, Integer.MIN_VALUE, Integer.MAX_VALUE}) {
            Checks.refused("3: label(" + farm + ", 1)", Checks.INDEX, s, t -> t.label(farm, 1));
            Checks.refused("3: label(" + farm + ", 901)", Checks.INDEX, s, t -> t.label(farm, 901));
        }
        for (int day : new int[] {-2, 901, Integer.MIN_VALUE, Integer.MAX_VALUE}) {
            Checks.refused("3: label(1, " + day + ")", Checks.ARGUMENT, s, t -> t.label(1, day));
        }
    }

    private static void promise4Price() {
        Station s = new Station();
        for (int price : new int[] {0, 51, -1, Integer.MIN_VALUE, Integer.MAX_VALUE}) {
            Checks.refused("4: price(" + price + ")", Checks.ARGUMENT, s, t -> t.price(price));
        }
        Checks.equal("4: price(1)", s.price(1), 5);
        Checks.equal("4: price(50)", s.price(50), 1);
        Checks.refused("4: price(51)", Checks.ARGUMENT, s, t -> t.price(51));
        Checks.equal("4: price(7)", s.price(7), 50);
        s.farm(10);
        s.bring(0, 10, 100);
        Checks.equal("4: what is paid for 10 kilos", s.many(6), -70);
        s.price(9);
        Checks.equal("4: what is paid stays paid", s.ofFarm(0, 2), 70);
    }

    private static void promise5BringFloatsAndPays() {
        Station s = new Station();
        s.farm(10);
        s.farm(11);
        Checks.equal("5: bring(1, 199, 33)", s.bring(1, 199, 33), 0);
        // 199 times 67 is 13333; a 200th of that is 66, so 133 are held.
        Checks.equal("5: farm", s.ofBasket(0, 0), 1);
        Checks.equal("5: held", s.ofBasket(0, 1), 133);
        Checks.equal("5: ripe", s.ofBasket(0, 2), 33);
        Checks.equal("5: waits", s.ofBasket(0, 3), 0);
        Checks.equal("5: age", s.ofBasket(0, 4), 0);
        Checks.equal("5: not certified", s.ofBasket(0, 5), 0);
        Checks.equal("5: floaters", s.many(7), 66);
        Checks.equal("5: coins", s.ofFarm(1, 2), 665);
        Checks.equal("5: money", s.many(6), -665);
        Checks.equal("5: coins of the other farm", s.ofFarm(0, 2), 0);
        Checks.equal("5: bring(0, 200, 100)", s.bring(0, 200, 100), 1);
        Checks.equal("5: no floaters of ripe ones", s.ofBasket(1, 1), 200);
        Checks.equal("5: bring(0, 1, 0)", s.bring(0, 1, 0), 2);
        Checks.equal("5: one unripe kilo is held", s.ofBasket(2, 1), 1);
        Checks.equal("5: bring(0, 200, 0)", s.bring(0, 200, 0), 3);
        Checks.equal("5: half of unripe ones floats", s.ofBasket(3, 1), 100);
        Checks.equal("5: floaters ever", s.many(7), 166);
        Checks.equal("5: baskets", s.many(2), 4);
        Checks.equal("5: coins of both", s.many(15), 665 + 5 * 301);
        Checks.equal("5: nothing lost", s.many(13), 0);
    }

    private static void promise5BringCertifies() {
        Station s = new Station();
        s.farm(10);
        s.label(0, 1);
        s.pass(47, 0, 0);
        s.bring(0, 10, 100);
        s.pass(1, 0, 0);
        s.bring(0, 10, 100);
        Checks.equal("5: certified on the label's last day", s.ofBasket(0, 5), 1);
        Checks.equal("5: not certified the day after", s.ofBasket(1, 5), 0);
        s.label(0, -1);
        Checks.equal("5: certified for good", s.ofBasket(0, 5), 1);
        s.label(0, 900);
        Checks.equal("5: not certified for good", s.ofBasket(1, 5), 0);
        s.label(0, 2);
        s.bring(0, 10, 100);
        Checks.equal("5: certified again", s.ofBasket(2, 5), 1);
    }

    private static void promise5BringRefuses() {
        Station s = new Station();
        Checks.refused("5: bring without farms", Checks.INDEX, s, t -> t.bring(0, 1, 1));
        s.farm(10);
        int[][] wrong = {{0, 50}, {201, 50}, {10, -1}, {10, 101}, {Integer.MIN_VALUE, 50}, {Integer.MAX_VALUE, 50},
            {10, Integer.MIN_VALUE}, {10, Integer.MAX_VALUE}, {0, -1}};
        for (int[] pair : wrong) {
            String text = pair[0] + ", " + pair[1] + ")";
            Checks.refused("5: bring(0, " + text, Checks.ARGUMENT, s, t -> t.bring(0, pair[0], pair[1]));
            Checks.refused("5: bring(1, " + text, Checks.INDEX, s, t -> t.bring(1, pair[0], pair[1]));
            Checks.refused("5: bring(-1, " + text, Checks.INDEX, s, t -> t.bring(-1, pair[0], pair[1]));
        }
        for (int i = 0; i < 20; i++) {
            Checks.equal("5: number of a basket", s.bring(0, 1 + i, 100), i);
        }
        Checks.refused("5: a 21st basket", Checks.STATE, s, t -> t.bring(0, 1, 1));
        Checks.refused("5: a 21st basket of 0 kilos", Checks.ARGUMENT, s, t -> t.bring(0, 0, 1));
        Checks.refused("5: a 21st basket of no farm", Checks.INDEX, s, t -> t.bring(1, 1, 1));
        s.pass(25, 0, 0);
        Checks.refused("5: spoilt ones count too", Checks.STATE, s, t -> t.bring(0, 1, 1));
    }
}
