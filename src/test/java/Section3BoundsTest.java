/** Section 3, tanks and beds: each sentence there that names a boundary case. */
public final class Section3BoundsTest {
    public static void main(String[] args) {
        tanksAreThreeAndHold300();
        bedsAreFiveAtMost();
        bedsAreEmptyOrHoldAMix();
        pulpTakesATankOfAnAgeOf8();
        pulpTakesAnEmptyTankOfAnyAge();
        pulpNeedsRoomForTheHalf();
        pulpHalvesAndLosesTheRest();
        pulpKeepsCertifiedAndRipe();
        emptyTankBeginsAt0();
        washNeedsAnEmptyBed();
        washNeeds12TimesTheArea();
        washedKeepsPointsAndTakesWater();
        honeyNeedsPointsBelow30();
        honeyTakesNoWater();
        tankIsEmptyThen();
        wholeTakesAllOfIt();
        wholeNeedsRoom();
        unturnedAndMouldAre0Then();
        turnMakesUnturned0();
        coverIsNotAtFirst();
        lotsAreTwelveEver();
        storeHalvesByFarm();
        storeThirdsOfNaturalOnes();
        lotHasWhatTheBedHas();
        bedIsEmptyThen();
        Checks.end();
    }

    private static Station small() {
        Station s = new Station();
        s.farm(10);
        s.bed(40);
        return s;
    }

    /** Fills the TANK with so many KILOS, of baskets of 200 and a last one. */
    private static void fill(Station s, int tank, int kilos) {
        for (int left = kilos; left > 0; left -= 100) {
            s.pulp(s.bring(0, 2 * Math.min(100, left), 100), tank);
        }
        Checks.equal("KILOS in TANK " + tank, s.ofTank(tank, 0), kilos);
    }

    private static void tanksAreThreeAndHold300() {
        Checks.sentence("Section 3", "TANKS 0 to 2 hold 300 KILOS each;");
        Station s = small();
        for (int tank = 0; tank <= 2; tank++) {
            int into = tank;
            fill(s, tank, 299);
            int two = s.bring(0, 2, 100);
            int four = s.bring(0, 4, 100);
            Checks.refused("301 in TANK " + tank, Checks.STATE, s, t -> t.pulp(four, into));
            Checks.equal("300 in TANK " + tank, s.pulp(two, tank), 300);
            Checks.refused("302 in TANK " + tank, Checks.STATE, s, t -> t.pulp(four, into));
        }
        Checks.equal("KILOS in all TANKS", s.many(9), 900);
        Checks.refusedOutside("a TANK", Checks.INDEX, s, 0, 2, (t, tank) -> t.ofTank(tank, 0));
    }

    private static void bedsAreFiveAtMost() {
        Checks.sentence("Section 3", "BEDS: at most 5, numbered from 0, each with an AREA (5 to 40);");
        Station s = new Station();
        Checks.refused("no BED 0 yet", Checks.INDEX, s, t -> t.ofBed(0, 0));
        Checks.range("an AREA", Checks.ARGUMENT, s, 5, 40, (t, area) -> t.bed(area));
        int[] areas = {5, 40, 6, 39, 5};
        for (int i = 0; i < 5; i++) {
            int next = i + 1;
            Checks.equal("the number of a BED", s.bed(areas[i]), i);
            Checks.equal("its AREA by this number", s.ofBed(i, 0), areas[i]);
            Checks.equal("so many BEDS", s.many(3), next);
            Checks.refused("no BED " + next + " yet", Checks.INDEX, s, t -> t.ofBed(next, 0));
        }
        Checks.refused("a sixth BED", Checks.STATE, s, t -> t.bed(5));
    }

    private static void bedsAreEmptyOrHoldAMix() {
        Checks.sentence("Section 3", "each of them is empty, or holds a MIX.");
        Station s = small();
        for (int tank = 0; tank <= 2; tank++) {
            int from = tank;
            Checks.equal("KILOS in TANK " + tank + " at first", s.ofTank(tank, 0), 0);
            Checks.refused("WASHING TANK " + tank + " at first", Checks.STATE, s, t -> t.wash(from, 0, false));
        }
        Checks.equal("KILOS on a BED at first", s.ofBed(0, 2), 0);
        Checks.refused("TURNING a BED at first", Checks.STATE, s, t -> t.turn(0));
        Checks.refused("STORING a BED at first", Checks.STATE, s, t -> t.store(0));
        Checks.equal("KILOS in all TANKS at first", s.many(9), 0);
        Checks.equal("KILOS on all BEDS at first", s.many(10), 0);
        s.pulp(s.bring(0, 2, 100), 2);
        Checks.equal("the fewest KILOS in a TANK", s.ofTank(2, 0), 1);
        s.wash(2, 0, false);
        Checks.equal("the fewest KILOS on a BED", s.ofBed(0, 2), 1);
        Checks.equal("KILOS in the TANK then", s.ofTank(2, 0), 0);
        Checks.taken("TURNING a BED with one KILO", s, t -> t.turn(0));
    }

    private static void pulpTakesATankOfAnAgeOf8() {
        Checks.sentence("Section 3", "To PULP a BASKET that WAITS into a TANK, that is empty or has an AGE of 8 or "
            + "less");
        Station s = small();
        s.pulp(s.bring(0, 20, 100), 1);
        int second = s.bring(0, 20, 100);
        for (int age = 0; age <= 12; age++) {
            Checks.equal("the AGE of the TANK", s.ofTank(1, 2), age);
            if (age <= 8) {
                Checks.taken("PULPING at an AGE of " + age, s, t -> t.pulp(second, 1));
            } else {
                Checks.refused("PULPING at an AGE of " + age, Checks.STATE, s, t -> t.pulp(second, 1));
            }
            s.pass(1, 10, 0);
        }
        Checks.taken("PULPING into an empty TANK", s, t -> t.pulp(second, 0));
        Station u = small();
        u.pulp(u.bring(0, 20, 100), 1);
        u.pass(8, 40, 0);
        u.pulp(u.bring(0, 20, 100), 1);
        Checks.equal("the AGE, as something comes at 8", u.ofTank(1, 2), 8);
        Checks.equal("the POINTS, as something comes at 8", u.ofTank(1, 3), 80);
        u.pass(1, 0, 0);
        Checks.equal("the AGE an HOUR later", u.ofTank(1, 2), 9);
        int third = u.bring(0, 20, 100);
        Checks.refused("PULPING at 9, though the last came at 8", Checks.STATE, u, t -> t.pulp(third, 1));
    }

    private static void pulpTakesAnEmptyTankOfAnyAge() {
        Checks.sentence("Section 3", "that is empty or has an AGE of 8 or less");
        Station s = small();
        s.pulp(s.bring(0, 20, 100), 1);
        s.pass(100, 10, 0);
        s.wash(1, 0, false);
        Checks.equal("PULPING into a TANK that was old, and is empty", s.pulp(s.bring(0, 20, 100), 1), 10);
        Station t = small();
        Checks.passLong(t, 200, 10, 0);
        Checks.equal("PULPING into a TANK that was never used", t.pulp(t.bring(0, 20, 100), 0), 10);
    }

    private static void pulpNeedsRoomForTheHalf() {
        Checks.sentence("Section 3", "and room for the half:");
        Station s = small();
        fill(s, 0, 250);
        int[] kilos = {100, 101, 102};
        for (int held : kilos) {
            int basket = s.bring(0, held, 100);
            if (held < 102) {
                Checks.taken("half of " + held + " where 50 have room", s, t -> t.pulp(basket, 0));
            } else {
                Checks.refused("half of " + held + " where 50 have room", Checks.STATE, s, t -> t.pulp(basket, 0));
            }
        }
        // Of 200 unripe ones 100 float, and the half of what is held has room.
        int unripe = s.bring(0, 200, 0);
        Checks.equal("half of what is held without FLOATERS", s.pulp(unripe, 0), 300);
        int one = s.bring(0, 2, 100);
        Checks.refused("one KILO where none has room", Checks.STATE, s, t -> t.pulp(one, 0));
    }

    private static void pulpHalvesAndLosesTheRest() {
        Checks.sentence("Section 3", "half of what it holds comes into that, CERTIFIED as it is, with its RIPE; the "
            + "rest of it is LOST.");
        int[][] heldHalfAndLost = {{2, 1, 1}, {3, 1, 2}, {4, 2, 2}, {5, 2, 3}, {199, 99, 100}, {200, 100, 100}};
        for (int[] row : heldHalfAndLost) {
            Station s = small();
            Checks.equal("half of " + row[0], s.pulp(s.bring(0, row[0], 100), 0), row[1]);
            Checks.equal("LOST of " + row[0], s.many(13), row[2]);
            Checks.equal("KILOS in the TANK", s.ofTank(0, 0), row[1]);
        }
        Station s = small();
        s.bring(0, 1, 100);
        Checks.refused("half of 1, which is nothing", Checks.STATE, s, t -> t.pulp(0, 0));
    }

    private static void pulpKeepsCertifiedAndRipe() {
        Checks.sentence("Section 3", "CERTIFIED as it is, with its RIPE;");
        Station s = small();
        s.pulp(s.bring(0, 3, 0), 0);
        Checks.equal("CERTIFIED KILOS of none", s.ofTank(0, 4), 0);
        Checks.equal("RIPE of 0", s.ofTank(0, 1), 0);
        s.label(0, 0);
        s.pulp(s.bring(0, 3, 100), 1);
        Checks.equal("CERTIFIED KILOS of one", s.ofTank(1, 4), 1);
        Checks.equal("RIPE of 100", s.ofTank(1, 1), 100);
        s.pulp(s.bring(0, 199, 100), 0);
        Checks.equal("CERTIFIED KILOS beside one that is not", s.ofTank(0, 4), 99);
        Checks.equal("all KILOS", s.ofTank(0, 0), 100);
    }

    private static void emptyTankBeginsAt0() {
        Checks.sentence("Section 3", "(A TANK that was empty begins with an AGE and POINTS of 0.)");
        Station s = small();
        s.pass(10, 40, 0);
        s.pulp(s.bring(0, 20, 100), 0);
        Checks.equal("the first AGE", s.ofTank(0, 2), 0);
        Checks.equal("the first POINTS", s.ofTank(0, 3), 0);
        s.pass(30, 40, 0);
        s.wash(0, 0, false);
        s.pass(3, 40, 0);
        s.pulp(s.bring(0, 20, 100), 0);
        Checks.equal("the AGE after it was emptied", s.ofTank(0, 2), 0);
        Checks.equal("the POINTS after it was emptied", s.ofTank(0, 3), 0);
        Checks.equal("the HOURS to be ready, from none", s.readyIn(0, 4), 60);
    }

    private static void washNeedsAnEmptyBed() {
        Checks.sentence("Section 3", "To WASH a TANK onto a BED that is empty,");
        Station s = small();
        s.pulp(s.bring(0, 2, 100), 0);
        s.pulp(s.bring(0, 2, 100), 1);
        s.wash(0, 0, false);
        Checks.refused("onto a BED with one KILO", Checks.STATE, s, t -> t.wash(1, 0, false));
        Checks.refused("HONEY onto a BED with one KILO", Checks.STATE, s, t -> t.wash(1, 0, true));
        s.bed(5);
        Checks.taken("onto an empty one beside it", s, t -> t.wash(1, 1, false));
        s.pulp(s.bring(0, 6, 100), 2);
        s.wash(2, 1, false);
        s.store(1);
        Checks.taken("onto one that was emptied", s, t -> t.wash(1, 1, true));
    }

    private static void washNeeds12TimesTheArea() {
        Checks.sentence("Section 3", "and on which 12 times AREA are no less than its KILOS:");
        int[][] areaAndKilos = {{5, 59}, {5, 60}, {5, 61}, {6, 72}, {6, 73}, {24, 288}, {24, 289}, {24, 300}, {25, 300},
            {40, 300}, {40, 1}};
        for (int[] row : areaAndKilos) {
            for (int honey = 0; honey <= 1; honey++) {
                boolean isHoney = honey == 1;
                Station s = new Station();
                s.farm(10);
                s.bed(row[0]);
                fill(s, 0, row[1]);
                String what = row[1] + " KILOS on an AREA of " + row[0] + ", HONEY " + isHoney;
                if (12 * row[0] >= row[1]) {
                    Checks.equal(what, s.wash(0, 0, isHoney), row[1]);
                    Checks.equal("all of " + what, s.ofBed(0, 2), row[1]);
                } else {
                    Checks.refused(what, Checks.STATE, s, t -> t.wash(0, 0, isHoney));
                }
            }
        }
    }

    private static void washedKeepsPointsAndTakesWater() {
        Checks.sentence("Section 3", "METHOD 0 (WASHED), MOISTURE 550, POINTS as they are; WATER is more by 3 times "
            + "its KILOS.");
        int[][] hoursKilosAndPoints = {{0, 1, 0}, {1, 99, 10}, {3, 100, 33}, {100, 300, 1300}};
        for (int[] row : hoursKilosAndPoints) {
            Station s = small();
            fill(s, 0, row[1]);
            Checks.passLong(s, row[0], 40, 0);
            s.wash(0, 0, false);
            int[] due = {40, 0, row[1], 0, 550, 0, 0, row[2]};
            for (int what = 0; what <= 7; what++) {
                Checks.equal("ofBed(0, " + what + ") of " + row[1] + " KILOS", s.ofBed(0, what), due[what]);
            }
            Checks.equal("WATER of " + row[1] + " KILOS", s.many(14), 3 * row[1]);
        }
        Station s = small();
        s.bed(40);
        fill(s, 0, 300);
        fill(s, 1, 1);
        s.wash(0, 0, false);
        s.wash(1, 1, false);
        Checks.equal("WATER of both", s.many(14), 903);
    }

    private static void honeyNeedsPointsBelow30() {
        Checks.sentence("Section 3", "With POINTS below 30 it can be HONEY instead: METHOD 1, MOISTURE 570, POINTS "
            + "as they are, too, without WATER.");
        for (int points : new int[] {0, 1, 28, 29, 30, 31, 60}) {
            Station s = small();
            s.pulp(s.bring(0, 20, 100), 0);
            Batch.ferment(s, points);
            Checks.equal("POINTS", s.ofTank(0, 3), points);
            Checks.taken("WASHED, with POINTS of " + points, s, t -> t.wash(0, 0, false));
            if (points >= 30) {
                Checks.refused("HONEY, with POINTS of " + points, Checks.STATE, s, t -> t.wash(0, 0, true));
                continue;
            }
            Checks.equal("HONEY, with POINTS of " + points, s.wash(0, 0, true), 10);
            int[] due = {40, 0, 10, 1, 570, 0, 0, points};
            for (int what = 0; what <= 7; what++) {
                Checks.equal("ofBed(0, " + what + ") with POINTS of " + points, s.ofBed(0, what), due[what]);
            }
        }
    }

    private static void honeyTakesNoWater() {
        Checks.sentence("Section 3", "POINTS as they are, too, without WATER.");
        Station s = small();
        s.bed(40);
        fill(s, 0, 300);
        s.wash(0, 0, true);
        Checks.equal("WATER of 300 KILOS of HONEY", s.many(14), 0);
        fill(s, 1, 100);
        s.wash(1, 1, false);
        Checks.equal("WATER of 100 KILOS of WASHED ones beside them", s.many(14), 300);
    }

    private static void tankIsEmptyThen() {
        Checks.sentence("Section 3", "The TANK is empty then.");
        for (int honey = 0; honey <= 1; honey++) {
            boolean isHoney = honey == 1;
            Station s = small();
            s.bed(40);
            s.label(0, 900);
            fill(s, 0, 20);
            fill(s, 1, 20);
            s.pass(2, 40, 0);
            s.wash(0, 0, isHoney);
            for (int what = 0; what <= 4; what++) {
                Checks.equal("ofTank(0, " + what + ") then", s.ofTank(0, what), 0);
            }
            Checks.equal("the other TANK", s.ofTank(1, 0), 20);
            Checks.equal("it can't be ready", s.readyIn(0, 40), -1);
            Checks.refused("WASHING it again", Checks.STATE, s, t -> t.wash(0, 1, isHoney));
            s.pulp(s.bring(0, 200, 0), 0);
            Checks.equal("nothing is left of its KILOS", s.ofTank(0, 0), 50);
            Checks.equal("nothing is left of its RIPE", s.ofTank(0, 1), 0);
        }
    }

    private static void wholeTakesAllOfIt() {
        Checks.sentence("Section 3", "To dry a BASKET WHOLE that WAITS: all of it onto a BED that is empty, and has "
            + "room for it as above: METHOD 2 (NATURAL), MOISTURE 600, POINTS 0.");
        int[][] kilosRipeAndHeld = {{1, 0, 1}, {1, 100, 1}, {200, 0, 100}, {200, 100, 200}, {199, 100, 199}};
        for (int[] row : kilosRipeAndHeld) {
            Station s = small();
            Checks.equal("what it held", s.whole(s.bring(0, row[0], row[1]), 0), row[2]);
            int[] due = {40, 0, row[2], 2, 600, 0, 0, 0};
            for (int what = 0; what <= 7; what++) {
                Checks.equal("ofBed(0, " + what + ") of " + row[0] + " KILOS", s.ofBed(0, what), due[what]);
            }
            Checks.equal("nothing is LOST", s.many(13), 0);
            Checks.equal("no WATER", s.many(14), 0);
        }
        Station s = small();
        s.bed(40);
        s.bring(0, 20, 100);
        s.pass(24, 0, 0);
        Checks.taken("one that WAITS at an AGE of 24", s, t -> t.whole(0, 0));
        s.pass(1, 0, 0);
        Checks.refused("one that is SPOILT", Checks.STATE, s, t -> t.whole(0, 0));
        s.whole(s.bring(0, 20, 100), 0);
        Checks.refused("one that is dried WHOLE", Checks.STATE, s, t -> t.whole(1, 1));
        s.pulp(s.bring(0, 20, 100), 0);
        Checks.refused("one that is PULPED", Checks.STATE, s, t -> t.whole(2, 1));
        int fourth = s.bring(0, 1, 100);
        Checks.refused("onto a BED that is not empty", Checks.STATE, s, t -> t.whole(fourth, 0));
        Checks.taken("onto an empty one", s, t -> t.whole(fourth, 1));
    }

    private static void wholeNeedsRoom() {
        Checks.sentence("Section 3", "and has room for it as above:");
        int[][] areaAndKilos = {{5, 59}, {5, 60}, {5, 61}, {16, 192}, {16, 193}, {17, 200}, {16, 200}, {40, 200}};
        for (int[] row : areaAndKilos) {
            Station s = new Station();
            s.farm(10);
            s.bed(row[0]);
            s.bring(0, row[1], 100);
            String what = row[1] + " KILOS on an AREA of " + row[0];
            if (12 * row[0] >= row[1]) {
                Checks.equal(what, s.whole(0, 0), row[1]);
            } else {
                Checks.refused(what, Checks.STATE, s, t -> t.whole(0, 0));
            }
        }
        Station s = new Station();
        s.farm(10);
        s.bed(5);
        // Of 80 with half of them ripe 20 float.
        Checks.equal("60 KILOS without their FLOATERS", s.whole(s.bring(0, 80, 50), 0), 60);
    }

    private static void unturnedAndMouldAre0Then() {
        Checks.sentence("Section 3", "UNTURNED and MOULD are 0 then.");
        for (int way = 0; way <= 2; way++) {
            Station s = small();
            s.whole(s.bring(0, 30, 100), 0);
            s.pass(30, 0, 0);
            Checks.equal("UNTURNED before", s.ofBed(0, 5), 30);
            Checks.equal("MOULD before", s.ofBed(0, 6), 2);
            s.store(0);
            int basket = s.bring(0, 30, 100);
            if (way == 2) {
                s.whole(basket, 0);
            } else {
                s.pulp(basket, 0);
                s.wash(0, 0, way == 1);
            }
            Checks.equal("UNTURNED of METHOD " + way, s.ofBed(0, 5), 0);
            Checks.equal("MOULD of METHOD " + way, s.ofBed(0, 6), 0);
            s.pass(11, 0, 0);
            Checks.equal("MOULD in the eleventh HOUR of METHOD " + way, s.ofBed(0, 6), 0);
            s.pass(1, 0, 0);
            Checks.equal("MOULD in the twelfth HOUR of METHOD " + way, s.ofBed(0, 6), 1);
        }
    }

    private static void turnMakesUnturned0() {
        Checks.sentence("Section 3", "To TURN a BED: UNTURNED is 0.");
        Station s = small();
        s.whole(s.bring(0, 30, 100), 0);
        Checks.equal("UNTURNED before the first HOUR", s.turn(0), 0);
        s.pass(12, 5, 0);
        int[] due = {40, 0, 30, 2, 575, 0, 1, 0};
        Checks.equal("UNTURNED before", s.turn(0), 12);
        for (int what = 0; what <= 7; what++) {
            Checks.equal("ofBed(0, " + what + ") as it is TURNED", s.ofBed(0, what), due[what]);
        }
        Checks.equal("UNTURNED of one just TURNED", s.turn(0), 0);
        s.pass(1, 0, 0);
        Checks.equal("UNTURNED an HOUR later", s.turn(0), 1);
    }

    private static void coverIsNotAtFirst() {
        Checks.sentence("Section 3", "A BED can be COVERED, or uncovered again (not at first).");
        Station s = small();
        s.bed(5);
        Checks.equal("not COVERED at first", s.ofBed(0, 1), 0);
        Checks.equal("it was not, as it is uncovered at first", s.cover(0, false), false);
        Checks.equal("it was not, as it is COVERED", s.cover(0, true), false);
        Checks.equal("COVERED", s.ofBed(0, 1), 1);
        Checks.equal("the other one is not", s.ofBed(1, 1), 0);
        Checks.equal("it was, as it is COVERED twice", s.cover(0, true), true);
        Checks.equal("COVERED yet", s.ofBed(0, 1), 1);
        Checks.equal("it was, as it is uncovered", s.cover(0, false), true);
        Checks.equal("uncovered", s.ofBed(0, 1), 0);
        s.cover(0, true);
        s.whole(s.bring(0, 30, 100), 0);
        Checks.equal("COVERED, as a MIX comes onto it", s.ofBed(0, 1), 1);
        s.store(0);
        Checks.equal("COVERED, as it is empty", s.ofBed(0, 1), 1);
    }

    private static void lotsAreTwelveEver() {
        Checks.sentence("Section 3", "To STORE a BED: a LOT (at most 12 ever, numbered from 0):");
        Station s = small();
        s.bed(40);
        Checks.refused("no LOT 0 yet", Checks.INDEX, s, t -> t.ofLot(0, 0));
        for (int i = 0; i < 12; i++) {
            int next = i + 1;
            Checks.equal("the number of a LOT", Checks.naturalLot(s, 0, 3 * next, 0), i);
            Checks.equal("its KILOS by this number", s.ofLot(i, 0), next);
            Checks.equal("so many LOTS", s.many(4), next);
            Checks.refused("no LOT " + next + " yet", Checks.INDEX, s, t -> t.ofLot(next, 0));
        }
        s.whole(s.bring(0, 30, 100), 0);
        Checks.refused("a 13th, as all are in store", Checks.STATE, s, t -> t.store(0));
        s.blend(0, 1);
        Checks.refused("a 13th, as one is blended away", Checks.STATE, s, t -> t.store(0));
        s.cup(2, 0);
        s.sell(2, 1, false);
        Checks.refused("a 13th, as one is sold", Checks.STATE, s, t -> t.store(0));
        Checks.equal("LOTS ever", s.many(4), 12);
        Checks.equal("LOTS in store", s.many(5), 10);
    }

    /** A LOT of KILOS of two FARMS, some of them CERTIFIED, on one BED: of each first the CERTIFIED ones. */
    private static Station lotOfBoth(int[] certified, int[] others) {
        Station s = small();
        s.farm(22);
        for (int farm = 0; farm <= 1; farm++) {
            s.label(farm, 900);
            pulp(s, farm, certified[farm]);
            s.label(farm, -1);
            pulp(s, farm, others[farm]);
        }
        s.wash(0, 0, false);
        return s;
    }

    private static void pulp(Station s, int farm, int kilos) {
        if (kilos > 0) {
            s.pulp(s.bring(farm, 2 * kilos, 100), 0);
        }
    }

    private static void storeHalvesByFarm() {
        Checks.sentence("Section 3", "of the KILOS of each FARM, and of those that are CERTIFIED, the half, of "
            + "NATURAL ones a third; what is no more there is LOST.");
        // Of each FARM the CERTIFIED and the other KILOS on the bed; the KILOS of each in the LOT, and CERTIFIED ones.
        int[][] rows = {{1, 2, 1, 2, 1, 1, 0}, {3, 0, 3, 0, 1, 1, 2}, {1, 1, 1, 1, 1, 1, 0}, {2, 1, 0, 1, 1, 0, 1},
            {1, 1, 0, 1, 1, 0, 0}, {50, 49, 99, 0, 49, 49, 74}, {0, 1, 0, 2, 0, 1, 0}};
        for (int i = 0; i < rows.length; i++) {
            int[] r = rows[i];
            Station s = lotOfBoth(new int[] {r[0], r[2]}, new int[] {r[1], r[3]});
            int onBed = r[0] + r[1] + r[2] + r[3];
            int lost = s.many(13);
            s.store(0);
            Checks.equal("KILOS of FARM 0, row " + i, s.kilosOf(0, 0), r[4]);
            Checks.equal("KILOS of FARM 1, row " + i, s.kilosOf(0, 1), r[5]);
            Checks.equal("all KILOS, row " + i, s.ofLot(0, 0), r[4] + r[5]);
            Checks.equal("CERTIFIED KILOS, row " + i, s.ofLot(0, 3), r[6]);
            Checks.equal("LOST, row " + i, s.many(13) - lost, onBed - r[4] - r[5]);
        }
        Station s = lotOfBoth(new int[] {1, 1}, new int[] {0, 0});
        Checks.refused("half of one KILO of each", Checks.STATE, s, t -> t.store(0));
    }

    private static void storeThirdsOfNaturalOnes() {
        Checks.sentence("Section 3", "of NATURAL ones a third; what is no more there is LOST.");
        int[][] kilosAndThird = {{3, 1}, {4, 1}, {5, 1}, {6, 2}, {199, 66}, {200, 66}, {198, 66}, {197, 65}};
        for (int[] row : kilosAndThird) {
            Station s = small();
            s.label(0, 0);
            Checks.naturalLot(s, 0, row[0], 0);
            Checks.equal("a third of " + row[0], s.ofLot(0, 0), row[1]);
            Checks.equal("a third of CERTIFIED ones of " + row[0], s.ofLot(0, 3), row[1]);
            Checks.equal("LOST of " + row[0], s.many(13), row[0] - row[1]);
        }
        for (int kilos = 1; kilos <= 2; kilos++) {
            Station s = small();
            s.whole(s.bring(0, kilos, 100), 0);
            Checks.refused("a third of " + kilos, Checks.STATE, s, t -> t.store(0));
        }
        Station s = small();
        s.pulp(s.bring(0, 4, 100), 0);
        s.wash(0, 0, true);
        Checks.equal("of two KILOS of HONEY the half", s.ofLot(s.store(0), 0), 1);
    }

    private static void lotHasWhatTheBedHas() {
        Checks.sentence("Section 3", "It has the RIPE, METHOD, POINTS, MOULD and MOISTURE of the BED, an AGE of 0, "
            + "and no readings.");
        for (int method = 0; method <= 2; method++) {
            Station s = small();
            Checks.passLong(s, 48, 0, 0);
            Batch batch = method == 0 ? Batch.washed(17) : method == 1 ? Batch.honey(29) : Batch.natural();
            batch.ripe(77).mould(2).moisture(301).store(s, 0);
            int kilos = method == 2 ? 10 : 15;
            int points = new int[] {17, 29, 0}[method];
            int[] due = {kilos, method, 1, 0, 77, points, 2, 301, 0, -1};
            for (int what = 0; what <= 9; what++) {
                Checks.equal("ofLot(0, " + what + ") of METHOD " + method, s.ofLot(0, what), due[what]);
            }
        }
    }

    private static void bedIsEmptyThen() {
        Checks.sentence("Section 3", "The BED is empty.");
        Station s = small();
        Batch.washed(17).mould(2).store(s, 0);
        for (int what = 1; what <= 7; what++) {
            Checks.equal("ofBed(0, " + what + ")", s.ofBed(0, what), 0);
        }
        Checks.equal("KILOS on BEDS", s.many(10), 0);
        Checks.equal("it can't be dry", s.dryIn(0, 40), -1);
        Checks.refused("TURNING it", Checks.STATE, s, t -> t.turn(0));
        Checks.refused("STORING it again", Checks.STATE, s, t -> t.store(0));
        Checks.equal("one KILO comes onto it", s.whole(s.bring(0, 1, 0), 0), 1);
        Checks.equal("and nothing else is there", s.ofBed(0, 2), 1);
    }
}
