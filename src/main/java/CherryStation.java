/** Coffee from a hillside to the cup: farms, baskets, tanks, beds, lots, and what each is worth. */
public final class CherryStation {
    private static final int NONE = -1;

    private static final int MOST_HOURS = 20000;
    private static final int MOST_FARMS = 6;
    private static final int MOST_BASKETS = 20;
    private static final int ALL_TANKS = 3;
    private static final int MOST_BEDS = 5;
    private static final int MOST_LOTS = 12;
    private static final int ALL_TASTERS = 3;

    private static final int WAITS = 0;
    private static final int PULPED = 1;
    private static final int DRIED_WHOLE = 2;
    private static final int SPOILT = 3;

    private static final int WASHED = 0;
    private static final int HONEY = 1;
    private static final int NATURAL = 2;

    private static final int UNRIPE = 1;
    private static final int FERMENT = 2;
    private static final int MOULD = 3;
    private static final int MOISTURE = 4;
    private static final int AGE = 5;

    private static final int FERMENTED_POINTS = 60;
    private static final int DRY_MOISTURE = 125;

    private final Farm[] farms = new Farm[MOST_FARMS];
    private final Basket[] baskets = new Basket[MOST_BASKETS];
    private final Tank[] tanks = new Tank[ALL_TANKS];
    private final Bed[] beds = new Bed[MOST_BEDS];
    private final Lot[] lots = new Lot[MOST_LOTS];
    // A BLEND that is only asked about is made here, so that asking makes no object.
    private final Lot trial = new Lot();
    private final int[] biases = new int[ALL_TASTERS];
    private int farmCount = 0;
    private int basketCount = 0;
    private int bedCount = 0;
    private int lotCount = 0;
    private int hour = 0;
    private int money = 0;
    private int cherryPrice = 5;
    private int floaters = 0;
    private int sold = 0;
    private int lost = 0;
    private int water = 0;

    public CherryStation() {
        for (int i = 0; i < MOST_FARMS; i++) {
            farms[i] = new Farm();
        }
        for (int i = 0; i < MOST_BASKETS; i++) {
            baskets[i] = new Basket();
        }
        for (int i = 0; i < ALL_TANKS; i++) {
            tanks[i] = new Tank();
        }
        for (int i = 0; i < MOST_BEDS; i++) {
            beds[i] = new Bed();
        }
        for (int i = 0; i < MOST_LOTS; i++) {
            lots[i] = new Lot();
        }
    }

    // ---- farms and baskets

    public int farm(int height) throws IllegalArgumentException, IllegalStateException {
        if (height < 10 || height > 22) {
            throw new IllegalArgumentException("height is not 10 to 22");
        }
        if (farmCount >= MOST_FARMS) {
            throw new IllegalStateException("there are 6 farms");
        }
        farms[farmCount].height = height;
        farmCount++;
        return farmCount - 1;
    }

    public int label(int farm, int day) throws IndexOutOfBoundsException, IllegalArgumentException {
        Farm told = farmAt(farm);
        if (day < NONE || day > 900) {
            throw new IllegalArgumentException("day is not -1 to 900");
        }
        int before = told.label;
        told.label = day;
        return before;
    }

    public int price(int price) throws IllegalArgumentException {
        if (price < 1 || price > 50) {
            throw new IllegalArgumentException("price is not 1 to 50");
        }
        int before = cherryPrice;
        cherryPrice = price;
        return before;
    }

    public int bring(int farm, int kilos, int ripe)
            throws IndexOutOfBoundsException, IllegalArgumentException, IllegalStateException {
        Farm owner = farmAt(farm);
        if (kilos < 1 || kilos > 200 || ripe < 0 || ripe > 100) {
            throw new IllegalArgumentException("kilos is not 1 to 200, or ripe not 0 to 100");
        }
        if (basketCount >= MOST_BASKETS) {
            throw new IllegalStateException("there were 20 baskets");
        }
        int floating = kilos * (100 - ripe) / 200;
        int held = kilos - floating;
        baskets[basketCount].fill(farm, held, ripe, owner.label >= hour / 24);
        basketCount++;
        floaters += floating;
        owner.kilosEver += held;
        owner.coins += held * cherryPrice;
        money -= held * cherryPrice;
        return basketCount - 1;
    }

    public int pass(int hours, int warmth, int rain) throws IllegalArgumentException, IllegalStateException {
        if (hours < 1 || hours > 100 || warmth < 0 || warmth > 40 || rain < 0 || rain > 20) {
            throw new IllegalArgumentException("hours is not 1 to 100, warmth not 0 to 40, or rain not 0 to 20");
        }
        if (hour + hours > MOST_HOURS) {
            throw new IllegalStateException("the hour would be above 20000");
        }
        int spoilt = 0;
        for (int i = 0; i < hours; i++) {
            spoilt += passOneHour(warmth, rain);
        }
        return spoilt;
    }

    // ---- tanks and beds

    public int bed(int area) throws IllegalArgumentException, IllegalStateException {
        if (area < 5 || area > 40) {
            throw new IllegalArgumentException("area is not 5 to 40");
        }
        if (bedCount >= MOST_BEDS) {
            throw new IllegalStateException("there are 5 beds");
        }
        beds[bedCount].area = area;
        bedCount++;
        return bedCount - 1;
    }

    public int pulp(int basket, int tank) throws IndexOutOfBoundsException, IllegalStateException {
        Basket from = basketAt(basket);
        Tank into = tankAt(tank);
        int half = from.kilos / 2;
        if (from.state != WAITS || half == 0 || !into.takes(half)) {
            throw new IllegalStateException("the basket can't be pulped into that tank");
        }
        from.state = PULPED;
        into.mix.addBasket(from, half);
        lost += from.kilos - half;
        return into.mix.kilos;
    }

    public int wash(int tank, int bed, boolean isHoney) throws IndexOutOfBoundsException, IllegalStateException {
        Tank from = tankAt(tank);
        Bed onto = bedAt(bed);
        int kilos = from.mix.kilos;
        if (from.mix.isEmpty() || !onto.takes(kilos) || (isHoney && from.points >= 30)) {
            throw new IllegalStateException("the tank can't be washed so onto that bed");
        }
        onto.begin(isHoney ? HONEY : WASHED, isHoney ? 570 : 550, from.points);
        onto.mix.addMix(from.mix);
        from.empty();
        if (!isHoney) {
            water += 3 * kilos;
        }
        return kilos;
    }

    public int whole(int basket, int bed) throws IndexOutOfBoundsException, IllegalStateException {
        Basket from = basketAt(basket);
        Bed onto = bedAt(bed);
        if (from.state != WAITS || from.kilos == 0 || !onto.takes(from.kilos)) {
            throw new IllegalStateException("the basket can't be dried whole on that bed");
        }
        from.state = DRIED_WHOLE;
        onto.begin(NATURAL, 600, 0);
        onto.mix.addBasket(from, from.kilos);
        return onto.mix.kilos;
    }

    public int turn(int bed) throws IndexOutOfBoundsException, IllegalStateException {
        Bed turned = bedAt(bed);
        if (turned.mix.isEmpty()) {
            throw new IllegalStateException("the bed is empty");
        }
        int before = turned.unturned;
        turned.unturned = 0;
        return before;
    }

    public boolean cover(int bed, boolean is) throws IndexOutOfBoundsException {
        Bed told = bedAt(bed);
        boolean before = told.isCovered;
        told.isCovered = is;
        return before;
    }

    public int store(int bed) throws IndexOutOfBoundsException, IllegalStateException {
        Bed from = bedAt(bed);
        // An empty BED keeps nothing either, so this asks for both.
        if (from.keptKilos() == 0 || lotCount >= MOST_LOTS) {
            throw new IllegalStateException("the bed gives no lot, or there were 12");
        }
        Lot made = lots[lotCount];
        made.fillFrom(from);
        lotCount++;
        lost += from.mix.kilos - made.mix.kilos;
        from.empty();
        return lotCount - 1;
    }

    // ---- cups and sales

    public int bias(int taster, int bias) throws IndexOutOfBoundsException, IllegalArgumentException {
        needTaster(taster);
        if (bias < -5 || bias > 5) {
            throw new IllegalArgumentException("bias is not -5 to 5");
        }
        int before = biases[taster];
        biases[taster] = bias;
        return before;
    }

    public int cup(int lot, int taster) throws IndexOutOfBoundsException, IllegalStateException {
        Lot cupped = lotAt(lot);
        needTaster(taster);
        if (!cupped.isInStore) {
            throw new IllegalStateException("the lot is not in store");
        }
        int reading = cupped.score(farms) + biases[taster];
        cupped.readings[taster] = reading;
        return reading;
    }

    public int blend(int lot, int other)
            throws IndexOutOfBoundsException, IllegalArgumentException, IllegalStateException {
        Lot first = lotAt(lot);
        Lot second = lotAt(other);
        if (lot == other) {
            throw new IllegalArgumentException("both are the same lot");
        }
        if (!first.canBlendWith(second)) {
            throw new IllegalStateException("a lot is not in store, or they are of two methods");
        }
        first.takeIn(second);
        first.forgetReadings();
        second.mix.clear();
        second.forgetReadings();
        second.isInStore = false;
        return first.mix.kilos;
    }

    public int sell(int lot, int price, boolean isLabelled)
            throws IndexOutOfBoundsException, IllegalArgumentException, IllegalStateException {
        Lot offered = lotAt(lot);
        needSale(offered, price);
        int brought = offered.worth(price, isLabelled);
        int rest = brought;
        for (int i = 0; i < farmCount; i++) {
            int share = offered.shareOf(i, brought);
            farms[i].coins += share;
            rest -= share;
        }
        money += rest;
        sold += offered.mix.kilos;
        offered.isInStore = false;
        return rest;
    }

    // ---- what is asked

    public int ofFarm(int farm, int what) throws IndexOutOfBoundsException, IllegalArgumentException {
        Farm asked = farmAt(farm);
        switch (what) {
            case 0: return asked.height;
            case 1: return asked.label;
            case 2: return asked.coins;
            case 3: return asked.kilosEver;
            case 4: return kilosInStore(farm);
            default: throw new IllegalArgumentException("what is not 0 to 4");
        }
    }

    public int ofBasket(int basket, int what) throws IndexOutOfBoundsException, IllegalArgumentException {
        Basket asked = basketAt(basket);
        switch (what) {
            case 0: return asked.farm;
            case 1: return asked.kilos;
            case 2: return asked.ripe;
            case 3: return asked.state;
            case 4: return asked.age;
            case 5: return asked.isCertified ? 1 : 0;
            default: throw new IllegalArgumentException("what is not 0 to 5");
        }
    }

    public int ofTank(int tank, int what) throws IndexOutOfBoundsException, IllegalArgumentException {
        Tank asked = tankAt(tank);
        switch (what) {
            case 0: return asked.mix.kilos;
            case 1: return asked.mix.ripe;
            case 2: return asked.age;
            case 3: return asked.points;
            case 4: return asked.mix.certifiedKilos();
            default: throw new IllegalArgumentException("what is not 0 to 4");
        }
    }

    public int ofBed(int bed, int what) throws IndexOutOfBoundsException, IllegalArgumentException {
        Bed asked = bedAt(bed);
        switch (what) {
            case 0: return asked.area;
            case 1: return asked.isCovered ? 1 : 0;
            case 2: return asked.mix.kilos;
            case 3: return asked.method;
            case 4: return asked.moisture;
            case 5: return asked.unturned;
            case 6: return asked.mould;
            case 7: return asked.points;
            default: throw new IllegalArgumentException("what is not 0 to 7");
        }
    }

    public int ofLot(int lot, int what) throws IndexOutOfBoundsException, IllegalArgumentException {
        Lot asked = lotAt(lot);
        switch (what) {
            case 0: return asked.mix.kilos;
            case 1: return asked.method;
            case 2: return asked.isInStore ? 1 : 0;
            case 3: return asked.mix.certifiedKilos();
            case 4: return asked.mix.ripe;
            case 5: return asked.points;
            case 6: return asked.mould;
            case 7: return asked.moisture;
            case 8: return asked.age;
            case 9: return asked.grade();
            case 10: return asked.mix.isEmpty() ? 0 : asked.score(farms);
            case 11: return asked.mix.isEmpty() ? 0 : asked.cause();
            default: throw new IllegalArgumentException("what is not 0 to 11");
        }
    }

    public int kilosOf(int lot, int farm) throws IndexOutOfBoundsException {
        Lot asked = lotAt(lot);
        needFarm(farm);
        return asked.mix.kilosBy[farm];
    }

    public int many(int what) throws IllegalArgumentException {
        switch (what) {
            case 0: return hour;
            case 1: return farmCount;
            case 2: return basketCount;
            case 3: return bedCount;
            case 4: return lotCount;
            case 5: return lotsInStore();
            case 6: return money;
            case 7: return floaters;
            case 8: return waitingKilos();
            case 9: return kilosInTanks();
            case 10: return kilosOnBeds();
            case 11: return allKilosInStore();
            case 12: return sold;
            case 13: return lost;
            case 14: return water;
            case 15: return allCoins();
            default: throw new IllegalArgumentException("what is not 0 to 15");
        }
    }

    public double meanScore() {
        int scores = 0;
        int kilos = 0;
        for (int i = 0; i < lotCount; i++) {
            if (lots[i].isInStore) {
                scores += lots[i].mix.kilos * lots[i].score(farms);
                kilos += lots[i].mix.kilos;
            }
        }
        return kilos == 0 ? 0.0 : (double) scores / (double) kilos;
    }

    // ---- what would be (nothing is changed)

    public int readyIn(int tank, int warmth) throws IndexOutOfBoundsException, IllegalArgumentException {
        Tank asked = tankAt(tank);
        needWarmth(warmth);
        if (asked.mix.isEmpty()) {
            return NONE;
        }
        for (int hours = 0; hours <= 200; hours++) {
            if (asked.points + hours * asked.pointsAnHour(warmth) >= FERMENTED_POINTS) {
                return hours;
            }
        }
        return NONE;
    }

    public int dryIn(int bed, int warmth) throws IndexOutOfBoundsException, IllegalArgumentException {
        Bed asked = bedAt(bed);
        needWarmth(warmth);
        if (asked.mix.isEmpty()) {
            return NONE;
        }
        int moisture = asked.moisture;
        for (int hours = 0; hours <= 400; hours++) {
            if (hours > 0) {
                moisture = asked.driedFrom(moisture, hour + hours, warmth);
            }
            if (moisture <= DRY_MOISTURE) {
                return hours;
            }
        }
        return NONE;
    }

    public int bestBlend() {
        int best = NONE;
        int bestScore = NONE;
        for (int i = 0; i < lotCount; i++) {
            for (int j = i + 1; j < lotCount; j++) {
                int score = lots[i].canBlendWith(lots[j]) ? blendedScore(lots[i], lots[j]) : NONE;
                // Of several with one SCORE the smallest number is due, and that comes first here.
                if (score > bestScore) {
                    bestScore = score;
                    best = 20 * i + j;
                }
            }
        }
        return best;
    }

    public int wouldShare(int lot, int farm, int price, boolean isLabelled)
            throws IndexOutOfBoundsException, IllegalArgumentException, IllegalStateException {
        Lot offered = lotAt(lot);
        needFarm(farm);
        needSale(offered, price);
        return offered.shareOf(farm, offered.worth(price, isLabelled));
    }

    public long digest() {
        long d = 7802;
        for (int what = 0; what <= 15; what++) {
            d = d * 31 + many(what);
        }
        d = digestFarms(d);
        d = digestBaskets(d);
        d = digestTanks(d);
        d = digestBeds(d);
        d = digestLots(d);
        return d * 31 + bestBlend();
    }

    // ---- parts of the digest

    private long digestFarms(long before) {
        long d = before;
        for (int i = 0; i < farmCount; i++) {
            for (int what = 0; what <= 4; what++) {
                d = d * 31 + ofFarm(i, what);
            }
        }
        return d;
    }

    private long digestBaskets(long before) {
        long d = before;
        for (int i = 0; i < basketCount; i++) {
            for (int what = 0; what <= 5; what++) {
                d = d * 31 + ofBasket(i, what);
            }
        }
        return d;
    }

    private long digestTanks(long before) {
        long d = before;
        for (int i = 0; i < ALL_TANKS; i++) {
            for (int what = 0; what <= 4; what++) {
                d = d * 31 + ofTank(i, what);
            }
            d = d * 31 + readyIn(i, 20);
        }
        return d;
    }

    private long digestBeds(long before) {
        long d = before;
        for (int i = 0; i < bedCount; i++) {
            for (int what = 0; what <= 7; what++) {
                d = d * 31 + ofBed(i, what);
            }
            d = d * 31 + dryIn(i, 25);
        }
        return d;
    }

    private long digestLots(long before) {
        long d = before;
        for (int i = 0; i < lotCount; i++) {
            for (int what = 0; what <= 11; what++) {
                d = d * 31 + ofLot(i, what);
            }
            for (int farm = 0; farm < farmCount; farm++) {
                d = d * 31 + kilosOf(i, farm);
            }
        }
        return d;
    }

    // ---- what a call needs

    private void needFarm(int farm) {
        if (farm < 0 || farm >= farmCount) {
            throw new IndexOutOfBoundsException("there is no such farm");
        }
    }

    private static void needTaster(int taster) {
        if (taster < 0 || taster >= ALL_TASTERS) {
            throw new IndexOutOfBoundsException("taster is not 0 to 2");
        }
    }

    private static void needWarmth(int warmth) {
        if (warmth < 0 || warmth > 40) {
            throw new IllegalArgumentException("warmth is not 0 to 40");
        }
    }

    private static void needSale(Lot lot, int price) {
        if (price < 1 || price > 200) {
            throw new IllegalArgumentException("price is not 1 to 200");
        }
        if (!lot.isInStore || lot.grade() == NONE) {
            throw new IllegalStateException("the lot is not in store, or has no grade");
        }
    }

    private Farm farmAt(int farm) {
        needFarm(farm);
        return farms[farm];
    }

    private Basket basketAt(int basket) {
        if (basket < 0 || basket >= basketCount) {
            throw new IndexOutOfBoundsException("there is no such basket");
        }
        return baskets[basket];
    }

    private Tank tankAt(int tank) {
        if (tank < 0 || tank >= ALL_TANKS) {
            throw new IndexOutOfBoundsException("tank is not 0 to 2");
        }
        return tanks[tank];
    }

    private Bed bedAt(int bed) {
        if (bed < 0 || bed >= bedCount) {
            throw new IndexOutOfBoundsException("there is no such bed");
        }
        return beds[bed];
    }

    private Lot lotAt(int lot) {
        if (lot < 0 || lot >= lotCount) {
            throw new IndexOutOfBoundsException("there is no such lot");
        }
        return lots[lot];
    }

    // ---- an hour

    private int passOneHour(int warmth, int rain) {
        hour++;
        int spoilt = ageBaskets();
        for (int i = 0; i < ALL_TANKS; i++) {
            tanks[i].passHour(warmth);
        }
        for (int i = 0; i < bedCount; i++) {
            beds[i].passHour(hour, warmth, rain);
        }
        if (hour % 24 == 0) {
            ageLots();
        }
        return spoilt;
    }

    private int ageBaskets() {
        int spoilt = 0;
        for (int i = 0; i < basketCount; i++) {
            if (baskets[i].spoilsInHour()) {
                lost += baskets[i].kilos;
                spoilt++;
            }
        }
        return spoilt;
    }

    private void ageLots() {
        for (int i = 0; i < lotCount; i++) {
            if (lots[i].isInStore) {
                lots[i].age++;
            }
        }
    }

    // ---- sums

    private int lotsInStore() {
        int count = 0;
        for (int i = 0; i < lotCount; i++) {
            if (lots[i].isInStore) {
                count++;
            }
        }
        return count;
    }

    private int allKilosInStore() {
        int kilos = 0;
        for (int i = 0; i < lotCount; i++) {
            if (lots[i].isInStore) {
                kilos += lots[i].mix.kilos;
            }
        }
        return kilos;
    }

    private int kilosInStore(int farm) {
        int kilos = 0;
        for (int i = 0; i < lotCount; i++) {
            if (lots[i].isInStore) {
                kilos += lots[i].mix.kilosBy[farm];
            }
        }
        return kilos;
    }

    private int waitingKilos() {
        int kilos = 0;
        for (int i = 0; i < basketCount; i++) {
            if (baskets[i].state == WAITS) {
                kilos += baskets[i].kilos;
            }
        }
        return kilos;
    }

    private int kilosInTanks() {
        int kilos = 0;
        for (int i = 0; i < ALL_TANKS; i++) {
            kilos += tanks[i].mix.kilos;
        }
        return kilos;
    }

    private int kilosOnBeds() {
        int kilos = 0;
        for (int i = 0; i < bedCount; i++) {
            kilos += beds[i].mix.kilos;
        }
        return kilos;
    }

    private int allCoins() {
        int coins = 0;
        for (int i = 0; i < farmCount; i++) {
            coins += farms[i].coins;
        }
        return coins;
    }

    private int blendedScore(Lot lot, Lot other) {
        trial.copyFrom(lot);
        trial.takeIn(other);
        return trial.score(farms);
    }

    /** The sum of KILOS times a value of both, divided by all KILOS. */
    private static int meanByKilos(int kilos, int value, int otherKilos, int otherValue) {
        int all = kilos + otherKilos;
        return all > 0 ? (kilos * value + otherKilos * otherValue) / all : 0;
    }

    // ---- what the station is made of

    private static final class Farm {
        int height = 0;
        int label = NONE;
        int coins = 0;
        int kilosEver = 0;
    }

    private static final class Basket {
        int farm = 0;
        int kilos = 0;
        int ripe = 0;
        int state = WAITS;
        int age = 0;
        boolean isCertified = false;

        void fill(int ofFarm, int held, int ripeShare, boolean certified) {
            farm = ofFarm;
            kilos = held;
            ripe = ripeShare;
            isCertified = certified;
        }

        boolean spoilsInHour() {
            if (state != WAITS) {
                return false;
            }
            age++;
            if (age <= 24) {
                return false;
            }
            state = SPOILT;
            return true;
        }
    }

    private static final class Mix {
        final int[] kilosBy = new int[MOST_FARMS];
        final int[] certifiedBy = new int[MOST_FARMS];
        // The sum of kilosBy, kept because every hour asks for it.
        int kilos = 0;
        int ripe = 0;

        boolean isEmpty() {
            return kilos == 0;
        }

        int certifiedKilos() {
            int sum = 0;
            for (int i = 0; i < MOST_FARMS; i++) {
                sum += certifiedBy[i];
            }
            return sum;
        }

        int height(Farm[] farms) {
            int sum = 0;
            for (int i = 0; i < MOST_FARMS && i < farms.length; i++) {
                sum += kilosBy[i] * farms[i].height;
            }
            return kilos > 0 ? sum / kilos : 0;
        }

        void clear() {
            for (int i = 0; i < MOST_FARMS; i++) {
                kilosBy[i] = 0;
                certifiedBy[i] = 0;
            }
            kilos = 0;
            ripe = 0;
        }

        void addBasket(Basket basket, int some) {
            ripe = meanByKilos(kilos, ripe, some, basket.ripe);
            kilosBy[basket.farm] += some;
            if (basket.isCertified) {
                certifiedBy[basket.farm] += some;
            }
            kilos += some;
        }

        void addMix(Mix other) {
            ripe = meanByKilos(kilos, ripe, other.kilos, other.ripe);
            for (int i = 0; i < MOST_FARMS; i++) {
                kilosBy[i] += other.kilosBy[i];
                certifiedBy[i] += other.certifiedBy[i];
            }
            kilos += other.kilos;
        }
    }

    private static final class Tank {
        final Mix mix = new Mix();
        int age = 0;
        int points = 0;

        boolean takes(int kilos) {
            return (mix.isEmpty() || age <= 8) && mix.kilos + kilos <= 300;
        }

        int pointsAnHour(int warmth) {
            return warmth / 4 + mix.kilos / 100;
        }

        void passHour(int warmth) {
            if (!mix.isEmpty()) {
                age++;
                points += pointsAnHour(warmth);
            }
        }

        void empty() {
            mix.clear();
            age = 0;
            points = 0;
        }
    }

    private static final class Bed {
        final Mix mix = new Mix();
        int area = 0;
        boolean isCovered = false;
        int method = WASHED;
        int moisture = 0;
        int unturned = 0;
        int mould = 0;
        int points = 0;

        boolean takes(int kilos) {
            return mix.isEmpty() && 12 * area >= kilos;
        }

        void begin(int newMethod, int newMoisture, int newPoints) {
            method = newMethod;
            moisture = newMoisture;
            points = newPoints;
            unturned = 0;
            mould = 0;
        }

        void empty() {
            mix.clear();
            begin(WASHED, 0, 0);
        }

        void passHour(int hour, int warmth, int rain) {
            if (mix.isEmpty()) {
                return;
            }
            if (rain > 0 && !isCovered) {
                moisture = Math.min(600, moisture + rain);
            } else {
                moisture = driedFrom(moisture, hour, warmth);
            }
            unturned++;
            if (unturned % 12 == 0 && moisture > 250) {
                mould++;
            }
        }

        int driedFrom(int before, int hour, int warmth) {
            int time = hour % 24;
            if (time < 8 || time > 17) {
                return before;
            }
            int less = warmth * 10 / (10 + depth());
            return Math.max(80, before - (isCovered ? less / 4 : less));
        }

        int depth() {
            return area > 0 ? mix.kilos / area : 0;
        }

        int keptOf(int kilos) {
            return method == NATURAL ? kilos / 3 : kilos / 2;
        }

        int keptKilos() {
            int sum = 0;
            for (int i = 0; i < MOST_FARMS; i++) {
                sum += keptOf(mix.kilosBy[i]);
            }
            return sum;
        }
    }

    private static final class Lot {
        final Mix mix = new Mix();
        final int[] readings = {NONE, NONE, NONE};
        boolean isInStore = false;
        int method = WASHED;
        int points = 0;
        int mould = 0;
        int moisture = 0;
        int age = 0;

        void fillFrom(Bed bed) {
            for (int i = 0; i < MOST_FARMS; i++) {
                mix.kilosBy[i] = bed.keptOf(bed.mix.kilosBy[i]);
                mix.certifiedBy[i] = bed.keptOf(bed.mix.certifiedBy[i]);
            }
            mix.kilos = bed.keptKilos();
            mix.ripe = bed.mix.ripe;
            method = bed.method;
            points = bed.points;
            mould = bed.mould;
            moisture = bed.moisture;
            isInStore = true;
        }

        void copyFrom(Lot other) {
            mix.clear();
            mix.addMix(other.mix);
            method = other.method;
            points = other.points;
            mould = other.mould;
            moisture = other.moisture;
            age = other.age;
        }

        boolean canBlendWith(Lot other) {
            return isInStore && other.isInStore && method == other.method;
        }

        void takeIn(Lot other) {
            points = meanByKilos(mix.kilos, points, other.mix.kilos, other.points);
            moisture = meanByKilos(mix.kilos, moisture, other.mix.kilos, other.moisture);
            mould = Math.max(mould, other.mould);
            age = Math.max(age, other.age);
            mix.addMix(other.mix);
        }

        void forgetReadings() {
            for (int i = 0; i < readings.length; i++) {
                readings[i] = NONE;
            }
        }

        int grade() {
            int sum = 0;
            int count = 0;
            for (int i = 0; i < readings.length; i++) {
                // A reading is 35 at least (a SCORE of 40, a BIAS of -5), so NONE is never one.
                if (readings[i] != NONE) {
                    sum += readings[i];
                    count++;
                }
            }
            return count > 0 ? sum / count : NONE;
        }

        int score(Farm[] farms) {
            int score = 68 + mix.height(farms);
            if (method == HONEY) {
                score += 1;
            } else if (method == NATURAL) {
                score += 2;
            }
            for (int number = UNRIPE; number <= AGE; number++) {
                score -= fault(number);
            }
            return Math.max(40, score);
        }

        int cause() {
            int greatest = 0;
            int cause = 0;
            for (int number = UNRIPE; number <= AGE; number++) {
                if (fault(number) > greatest) {
                    greatest = fault(number);
                    cause = number;
                }
            }
            return cause;
        }

        int fault(int number) {
            switch (number) {
                case UNRIPE: return (100 - mix.ripe) / 5;
                case FERMENT: return method == WASHED ? fermentFault() : 0;
                case MOULD: return method == NATURAL ? 2 * mould : mould;
                case MOISTURE: return moistureFault();
                default: return age / 30;
            }
        }

        int fermentFault() {
            if (points < FERMENTED_POINTS) {
                return (FERMENTED_POINTS - points) / 5;
            }
            return points > 100 ? (points - 100) / 5 : 0;
        }

        int moistureFault() {
            if (moisture > DRY_MOISTURE) {
                return (moisture - DRY_MOISTURE) / 10;
            }
            return moisture < 95 ? (95 - moisture) / 5 : 0;
        }

        int worth(int price, boolean isLabelled) {
            int brought = mix.kilos * price;
            return isLabelled && grade() >= 80 ? brought + 10 * mix.certifiedKilos() : brought;
        }

        int shareOf(int farm, int brought) {
            return mix.kilos > 0 ? brought * mix.kilosBy[farm] * 2 / (5 * mix.kilos) : 0;
        }
    }
}
