/** Section 4, sales: each sentence there on cups, blends and sales that names a boundary case. */
public final class Section4SalesBoundsTest {
    public static void main(String[] args) {
        biasHasBounds();
        readingIsOfThen();
        newerReadingIsInPlace();
        gradeIsTheMeanRoundedDown();
        gradeIsNoneWithoutAny();
        blendNeedsOneMethodInStore();
        blendHasMeansRoundedDown();
        blendHasTheGreaterMouldAndAge();
        blendForgetsReadings();
        otherOneIsEmpty();
        sellNeedsAGrade();
        sellForAPrice();
        labelledNeedsAGradeOf80();
        labelledIsForCertifiedKilos();
        farmsGetTwoFifths();
        farmsGetTwoFifthsOfWhatIsLabelled();
        moneyGetsTheRest();
        theGreatestSale();
        soldKeepsMixAndReadings();
        Checks.end();
    }

    /** FARMS of the HEIGHTS 12 and 22, and a BED; a NATURAL LOT of FARM 0 without FAULTS has a SCORE of 82. */
    private static Station small() {
        Station s = new Station();
        s.farm(12);
        s.farm(22);
        s.bed(40);
        return s;
    }

    private static Station withLot() {
        Station s = small();
        Batch.natural().store(s, 0);
        return s;
    }

    private static void biasHasBounds() {
        Checks.sentence("Section 4", "TASTERS 0 to 2 each have a BIAS (-5 to 5; 0 at first).");
        Station s = withLot();
        for (int taster = 0; taster <= 2; taster++) {
            int of = taster;
            Checks.equal("the first reading of TASTER " + of, s.twin().cup(0, of), 82);
            Checks.equal("the first BIAS of TASTER " + of, s.twin().bias(of, 1), 0);
            Checks.range("a BIAS of TASTER " + of, Checks.ARGUMENT, s, -5, 5, (t, bias) -> t.bias(of, bias));
        }
        Checks.range("a TASTER who is told", Checks.INDEX, s, 0, 2, (t, taster) -> t.bias(taster, 1));
        Checks.range("a TASTER who CUPS", Checks.INDEX, s, 0, 2, (t, taster) -> t.cup(0, taster));
        s.bias(0, -5);
        s.bias(2, 5);
        Checks.equal("a reading with the lowest BIAS", s.cup(0, 0), 77);
        Checks.equal("a reading with none", s.cup(0, 1), 82);
        Checks.equal("a reading with the highest BIAS", s.cup(0, 2), 87);
    }

    private static void readingIsOfThen() {
        Checks.sentence("Section 4", "To CUP a LOT that is in store: the reading of that TASTER is its SCORE and the "
            + "BIAS, as they are then;");
        Station s = withLot();
        s.bias(0, 2);
        Checks.equal("the reading", s.cup(0, 0), 84);
        s.bias(0, -3);
        Checks.equal("the GRADE, as the BIAS is another", s.ofLot(0, 9), 84);
        Checks.passLong(s, 24 * 30, 0, 0);
        Checks.equal("the SCORE, as it has aged", s.ofLot(0, 10), 81);
        Checks.equal("the GRADE, as it has aged", s.ofLot(0, 9), 84);
        Checks.equal("a new reading", s.cup(0, 0), 78);
        Station low = small();
        Checks.naturalLot(low, 0, 30, 0);
        low.bias(1, -5);
        Checks.equal("the lowest reading, which is below 40", low.cup(0, 1), 35);
        Checks.equal("the lowest GRADE", low.ofLot(0, 9), 35);
        Station high = small();
        Batch.natural().farm(1).store(high, 0);
        high.bias(1, 5);
        Checks.equal("the highest reading", high.cup(0, 1), 97);
        Checks.equal("the highest GRADE", high.ofLot(0, 9), 97);
    }

    private static void newerReadingIsInPlace() {
        Checks.sentence("Section 4", "a TASTER's newer reading is in place of an older one.");
        Station s = withLot();
        s.bias(0, 5);
        s.cup(0, 0);
        s.cup(0, 1);
        Checks.equal("the GRADE of 87 and 82", s.ofLot(0, 9), 84);
        s.bias(0, -5);
        s.cup(0, 0);
        Checks.equal("the GRADE of 77 and 82", s.ofLot(0, 9), 79);
        s.cup(0, 0);
        s.cup(0, 0);
        Checks.equal("the GRADE, as one CUPS the same again", s.ofLot(0, 9), 79);
    }

    private static void gradeIsTheMeanRoundedDown() {
        Checks.sentence("Section 4", "Its GRADE is the mean of its readings (up to three), rounded down; NONE "
            + "without any.");
        int[][] biasesAndGrade = {{0, 0, 0, 82}, {0, 0, 1, 82}, {0, 1, 1, 82}, {1, 1, 1, 83}, {0, 0, -1, 81}, {-1, -1, 0, 81},
            {-5, 5, 0, 82}, {-5, 5, -1, 81}, {5, 5, 5, 87}, {5, 5, 4, 86}, {-5, -5, -5, 77}, {-5, -5, -4, 77}};
        Station two = withLot();
        two.bias(1, 1);
        two.cup(0, 0);
        Checks.equal("the GRADE of one", two.ofLot(0, 9), 82);
        two.cup(0, 1);
        Checks.equal("the GRADE of 82 and 83", two.ofLot(0, 9), 82);
        two.bias(1, 2);
        two.cup(0, 1);
        Checks.equal("the GRADE of 82 and 84", two.ofLot(0, 9), 83);
        for (int[] row : biasesAndGrade) {
            Station s = withLot();
            for (int taster = 0; taster <= 2; taster++) {
                s.bias(taster, row[taster]);
                s.cup(0, taster);
            }
            Checks.equal("the GRADE of BIASES " + row[0] + ", " + row[1] + ", " + row[2], s.ofLot(0, 9), row[3]);
        }
    }

    private static void gradeIsNoneWithoutAny() {
        Checks.sentence("Section 4", "NONE without any.");
        for (int taster = 0; taster <= 2; taster++) {
            Station s = withLot();
            Batch.natural().store(s, 0);
            Checks.equal("the GRADE without any", s.ofLot(0, 9), -1);
            s.cup(0, taster);
            Checks.equal("the GRADE of TASTER " + taster + " alone", s.ofLot(0, 9), 82);
            Checks.equal("the GRADE of another LOT", s.ofLot(1, 9), -1);
        }
    }

    /** A LOT at once, of KILOS / 2 of what was PULPED, or a third, if it is dried WHOLE. */
    private static int lotOf(Station s, int method, int kilos) {
        return method == 2 ? Checks.naturalLot(s, 0, 3 * kilos, 0) : Checks.wetLot(s, 0, 4 * kilos, 0, 0, method == 1);
    }

    private static void blendNeedsOneMethodInStore() {
        Checks.sentence("Section 4", "To BLEND two LOTS in store of one METHOD: the first one has the MIX of both;");
        for (int first = 0; first <= 2; first++) {
            for (int second = 0; second <= 2; second++) {
                Station s = small();
                lotOf(s, first, 2);
                lotOf(s, second, 3);
                String what = "METHOD " + first + " with " + second;
                if (first == second) {
                    Checks.equal(what, s.blend(0, 1), 5);
                    Checks.equal("KILOS of " + what, s.ofLot(0, 0), 5);
                    Checks.equal("its METHOD", s.ofLot(0, 1), first);
                } else {
                    Checks.refused(what, Checks.STATE, s, t -> t.blend(0, 1));
                }
            }
        }
        Station s = small();
        for (int i = 0; i < 4; i++) {
            lotOf(s, 2, 1);
        }
        s.cup(0, 0);
        s.sell(0, 1, false);
        s.blend(1, 2);
        Checks.refused("one that is sold, first", Checks.STATE, s, t -> t.blend(0, 3));
        Checks.refused("one that is sold, as the other", Checks.STATE, s, t -> t.blend(3, 0));
        Checks.refused("one that is blended away, first", Checks.STATE, s, t -> t.blend(2, 3));
        Checks.refused("one that is blended away, as the other", Checks.STATE, s, t -> t.blend(3, 2));
        Checks.equal("two that are left", s.blend(3, 1), 3);
        Checks.refused("the same again", Checks.STATE, s, t -> t.blend(3, 1));
    }

    /** The first LOT blended with the other: of each its KILOS, POINTS and MOISTURE. */
    private static Station blended(int[] first, int[] other) {
        Station s = small();
        Batch.washed(first[1]).kilos(2 * first[0]).moisture(first[2]).store(s, 0);
        Batch.washed(other[1]).kilos(2 * other[0]).moisture(other[2]).store(s, 0);
        Checks.equal("KILOS of both", s.blend(0, 1), first[0] + other[0]);
        return s;
    }

    private static void blendHasMeansRoundedDown() {
        Checks.sentence("Section 4", "POINTS and MOISTURE are the means by KILOS (sums of KILOS times these, divided "
            + "by all KILOS)");
        int[][][] rows = {{{1, 0, 550}, {1, 1, 549}, {0, 549}}, {{1, 1, 549}, {1, 0, 550}, {0, 549}},
            {{1, 0, 548}, {1, 2, 550}, {1, 549}}, {{2, 1, 500}, {1, 0, 501}, {0, 500}}, {{1, 1, 500}, {2, 1, 501}, {1, 500}},
            {{1, 3, 503}, {2, 0, 500}, {1, 501}}, {{18, 60, 550}, {1, 0, 474}, {56, 546}}, {{1, 0, 80}, {18, 0, 81}, {0, 80}}};
        for (int i = 0; i < rows.length; i++) {
            Station s = blended(rows[i][0], rows[i][1]);
            Checks.equal("POINTS, row " + i, s.ofLot(0, 5), rows[i][2][0]);
            Checks.equal("MOISTURE, row " + i, s.ofLot(0, 7), rows[i][2][1]);
        }
        Station s = small();
        s.bed(40);
        for (int tank = 0; tank <= 1; tank++) {
            for (int i = 0; i < 3; i++) {
                s.pulp(s.bring(1, 200, 100), tank);
            }
        }
        Checks.passLong(s, 20000, 40, 0);
        s.wash(0, 0, false);
        s.wash(1, 1, false);
        s.store(0);
        s.store(1);
        Checks.equal("the most KILOS of two", s.blend(1, 0), 300);
        Checks.equal("the most POINTS", s.ofLot(1, 5), 260000);
        Checks.equal("its SCORE, at least", s.ofLot(1, 10), 40);
    }

    private static void blendHasTheGreaterMouldAndAge() {
        Checks.sentence("Section 4", "MOULD and AGE the greater ones;");
        for (int first = 0; first <= 1; first++) {
            Station s = small();
            Batch.natural().mould(2).moisture(300).store(s, 0);
            Batch.natural().mould(1).moisture(300).store(s, 0);
            Checks.passLong(s, 48, 0, 0);
            int age = s.ofLot(0, 8);
            Checks.equal("the first one is older", age > s.ofLot(1, 8), true);
            s.blend(first, 1 - first);
            Checks.equal("MOULD of LOT " + first, s.ofLot(first, 6), 2);
            Checks.equal("AGE of LOT " + first, s.ofLot(first, 8), age);
        }
        Station same = small();
        Checks.naturalLot(same, 0, 3, 0);
        Checks.naturalLot(same, 0, 3, 0);
        Checks.passLong(same, 48, 0, 0);
        same.blend(0, 1);
        Checks.equal("MOULD of two without", same.ofLot(0, 6), 0);
        Checks.equal("AGE of two of one AGE", same.ofLot(0, 8), 2);
    }

    private static void blendForgetsReadings() {
        Checks.sentence("Section 4", "its readings are gone. The other one is empty");
        Station s = small();
        lotOf(s, 2, 1);
        lotOf(s, 2, 1);
        for (int taster = 0; taster <= 2; taster++) {
            s.cup(0, taster);
            s.cup(1, taster);
        }
        s.blend(0, 1);
        Checks.equal("the GRADE of the first one", s.ofLot(0, 9), -1);
        Checks.equal("the GRADE of the other one", s.ofLot(1, 9), -1);
        Checks.refused("SELLING without one", Checks.STATE, s, t -> t.sell(0, 1, false));
        s.bias(2, 3);
        Checks.equal("a reading after that", s.cup(0, 2), 43);
        Checks.equal("its GRADE alone", s.ofLot(0, 9), 43);
    }

    private static void otherOneIsEmpty() {
        Checks.sentence("Section 4", "The other one is empty (KILOS, CERTIFIED ones, RIPE 0; its readings are gone, "
            + "too; all else of it stays), and not in store any more.");
        Station s = small();
        s.label(0, 900);
        Batch.washed(17).ripe(80).mould(2).moisture(301).store(s, 0);
        Batch.washed(40).kilos(10).ripe(90).moisture(250).store(s, 0);
        s.cup(0, 0);
        int age = s.ofLot(0, 8);
        s.blend(1, 0);
        int[] due = {0, 0, 0, 0, 0, 17, 2, 301, age, -1, 0, 0};
        for (int what = 0; what <= 11; what++) {
            Checks.equal("ofLot(0, " + what + ")", s.ofLot(0, what), due[what]);
        }
        Checks.equal("KILOS of FARM 0 in it", s.kilosOf(0, 0), 0);
        Checks.equal("LOTS ever", s.many(4), 2);
        Checks.equal("LOTS in store", s.many(5), 1);
        Checks.equal("KILOS in store", s.many(11), 20);
        Checks.equal("KILOS of the FARM in store", s.ofFarm(0, 4), 20);
        Checks.equal("CERTIFIED KILOS of both", s.ofLot(1, 3), 20);
        // 15 KILOS of 80 and 5 of 90.
        Checks.equal("RIPE of both", s.ofLot(1, 4), 82);
        Checks.refused("CUPPING it", Checks.STATE, s, t -> t.cup(0, 0));
        Checks.refused("SELLING it", Checks.STATE, s, t -> t.sell(0, 1, false));
        s.pass(48, 0, 0);
        Checks.equal("its AGE stays", s.ofLot(0, 8), age);
    }

    private static void sellNeedsAGrade() {
        Checks.sentence("Section 4", "To SELL a LOT in store that has a GRADE");
        Station s = withLot();
        Checks.refused("one without a GRADE", Checks.STATE, s, t -> t.sell(0, 1, false));
        s.cup(0, 2);
        Checks.equal("one with a GRADE", s.sell(0, 1, false), 6);
        Checks.refused("one that is sold", Checks.STATE, s, t -> t.sell(0, 1, false));
    }

    private static void sellForAPrice() {
        Checks.sentence("Section 4", "for a PRICE for a kilo (1 to 200): it brings KILOS times that;");
        Station s = withLot();
        s.cup(0, 0);
        Checks.range("a PRICE for a kilo", Checks.ARGUMENT, s, 1, 200, (t, price) -> t.sell(0, price, false));
        int[][] priceAndRest = {{1, 6}, {2, 12}, {199, 1990 - 796}, {200, 1200}};
        for (int[] row : priceAndRest) {
            Station t = s.twin();
            int all = t.many(6) + t.many(15);
            Checks.equal("MONEY gets of ten KILOS for " + row[0], t.sell(0, row[0], false), row[1]);
            Checks.equal("what they bring", t.many(6) + t.many(15) - all, 10 * row[0]);
            Checks.equal("KILOS sold", t.many(12), 10);
        }
    }

    /** A LOT of CERTIFIED KILOS and others, with a SCORE of 82. */
    private static Station certified(int kilos, int others) {
        Station s = small();
        s.bed(40);
        s.label(0, 900);
        int lot = kilos > 0 ? Batch.natural().kilos(3 * kilos).store(s, 0) : -1;
        s.label(0, -1);
        int other = others > 0 ? Batch.natural().kilos(3 * others).store(s, 1) : -1;
        if (lot >= 0 && other >= 0) {
            s.blend(lot, other);
        }
        Checks.equal("CERTIFIED KILOS", s.ofLot(0, 3), kilos);
        Checks.equal("all KILOS", s.ofLot(0, 0), kilos + others);
        return s;
    }

    private static int brings(Station s, int price, boolean isLabelled) {
        Station t = s.twin();
        int all = t.many(6) + t.many(15);
        t.sell(0, price, isLabelled);
        return t.many(6) + t.many(15) - all;
    }

    private static void labelledNeedsAGradeOf80() {
        Checks.sentence("Section 4", "as LABELLED, and with a GRADE of 80 or more, 10 more for each CERTIFIED kilo.");
        for (int grade = 78; grade <= 82; grade++) {
            Station s = certified(3, 2);
            s.bias(0, grade - 82);
            s.cup(0, 0);
            Checks.equal("the GRADE", s.ofLot(0, 9), grade);
            Checks.equal("LABELLED, with " + grade, brings(s, 7, true), grade >= 80 ? 35 + 30 : 35);
            Checks.equal("not LABELLED, with " + grade, brings(s, 7, false), 35);
        }
        Station s = certified(3, 2);
        s.bias(0, -2);
        s.bias(1, -3);
        s.cup(0, 0);
        s.cup(0, 1);
        Checks.equal("LABELLED, with readings of 80 and 79", brings(s, 7, true), 35);
        s.cup(0, 2);
        Checks.equal("LABELLED, with 80, 79 and 82", brings(s, 7, true), 35 + 30);
        // It is the GRADE that counts, not the SCORE of now.
        Station old = certified(3, 2);
        old.bias(0, -2);
        old.cup(0, 0);
        Checks.passLong(old, 24 * 95, 0, 0);
        Checks.equal("the SCORE of now", old.ofLot(0, 10), 79);
        Checks.equal("LABELLED, with a GRADE of then", brings(old, 7, true), 35 + 30);
        Station better = certified(3, 2);
        better.bias(0, -3);
        better.cup(0, 0);
        Checks.equal("LABELLED, with a GRADE below its SCORE", brings(better, 7, true), 35);
    }

    private static void labelledIsForCertifiedKilos() {
        Checks.sentence("Section 4", "10 more for each CERTIFIED kilo.");
        int[][] certifiedAndOthers = {{0, 5}, {1, 4}, {1, 0}, {5, 0}, {4, 1}};
        for (int[] row : certifiedAndOthers) {
            Station s = certified(row[0], row[1]);
            s.cup(0, 0);
            int plain = 200 * (row[0] + row[1]);
            Checks.equal(row[0] + " of them CERTIFIED, LABELLED", brings(s, 200, true), plain + 10 * row[0]);
            Checks.equal(row[0] + " of them CERTIFIED, not LABELLED", brings(s, 200, false), plain);
        }
        Station six = new Station();
        six.bed(40);
        for (int farm = 0; farm < 6; farm++) {
            six.farm(22);
            six.label(farm, farm == 0 || farm == 5 ? 900 : -1);
            six.pulp(six.bring(farm, 4, 100), 0);
        }
        Checks.equal("CERTIFIED KILOS of the first and the last FARM, in a TANK", six.ofTank(0, 4), 4);
        six.wash(0, 0, true);
        Batch.dry(six, 0, 110);
        six.store(0);
        six.cup(0, 0);
        Checks.equal("CERTIFIED KILOS of the first and the last FARM", six.ofLot(0, 3), 2);
        Checks.equal("one KILO of each of six FARMS, LABELLED", brings(six, 1, true), 6 + 2 * 10);
    }

    /** A LOT of the KILOS of both FARMS, CUPPED. */
    private static Station ofBoth(int kilos, int others) {
        Station s = small();
        s.pulp(s.bring(0, 4 * kilos, 100), 0);
        if (others > 0) {
            s.pulp(s.bring(1, 4 * others, 100), 0);
        }
        s.wash(0, 0, true);
        s.store(0);
        s.cup(0, 0);
        return s;
    }

    private static void farmsGetTwoFifths() {
        Checks.sentence("Section 4", "Each FARM gets two fifths of what its KILOS have of that: what it brings times "
            + "its KILOS, times 2, divided by (5 times all KILOS);");
        // KILOS of both, the PRICE, and what each gets.
        int[][] rows = {{1, 0, 1, 0, 0}, {1, 0, 2, 0, 0}, {1, 0, 3, 1, 0}, {1, 0, 5, 2, 0}, {1, 0, 7, 2, 0}, {1, 0, 8, 3, 0},
            {1, 2, 1, 0, 0}, {1, 2, 2, 0, 1}, {1, 2, 3, 1, 2}, {1, 2, 4, 1, 3}, {1, 2, 5, 2, 4}, {2, 1, 2, 1, 0},
            {3, 4, 200, 240, 320}, {49, 49, 199, 3900, 3900}, {7, 13, 37, 103, 192}};
        for (int[] r : rows) {
            Station s = ofBoth(r[0], r[1]);
            String what = r[0] + " and " + r[1] + " KILOS for " + r[2];
            int[] before = {s.ofFarm(0, 2), s.ofFarm(1, 2)};
            int money = s.many(6);
            int rest = (r[0] + r[1]) * r[2] - r[3] - r[4];
            Checks.equal("FARM 0 would get of " + what, s.wouldShare(0, 0, r[2], false), r[3]);
            Checks.equal("FARM 1 would get of " + what, s.wouldShare(0, 1, r[2], false), r[4]);
            Checks.equal("MONEY gets of " + what, s.sell(0, r[2], false), rest);
            Checks.equal("FARM 0 gets of " + what, s.ofFarm(0, 2) - before[0], r[3]);
            Checks.equal("FARM 1 gets of " + what, s.ofFarm(1, 2) - before[1], r[4]);
            Checks.equal("MONEY of " + what, s.many(6) - money, rest);
        }
    }

    private static void farmsGetTwoFifthsOfWhatIsLabelled() {
        Checks.sentence("Section 4", "Each FARM gets two fifths of what its KILOS have of that:");
        Station s = small();
        s.label(0, 900);
        s.pulp(s.bring(0, 12, 100), 0);
        s.pulp(s.bring(1, 16, 100), 0);
        s.wash(0, 0, true);
        Batch.dry(s, 0, 110);
        s.store(0);
        s.cup(0, 0);
        // 3 CERTIFIED KILOS and 4 others: the PRICE, and what each FARM gets of 7 times that and 30, by 35.
        int[][] rows = {{1, 6, 8}, {4, 9, 13}, {5, 11, 14}, {10, 17, 22}, {200, 245, 326}};
        for (int[] r : rows) {
            Station t = s.twin();
            int[] before = {t.ofFarm(0, 2), t.ofFarm(1, 2)};
            Checks.equal("FARM 0 would get for " + r[0], t.wouldShare(0, 0, r[0], true), r[1]);
            Checks.equal("FARM 1 would get for " + r[0], t.wouldShare(0, 1, r[0], true), r[2]);
            Checks.equal("MONEY gets for " + r[0], t.sell(0, r[0], true), 7 * r[0] + 30 - r[1] - r[2]);
            Checks.equal("FARM 0 gets for " + r[0], t.ofFarm(0, 2) - before[0], r[1]);
            Checks.equal("FARM 1 gets for " + r[0], t.ofFarm(1, 2) - before[1], r[2]);
        }
    }

    private static void moneyGetsTheRest() {
        Checks.sentence("Section 4", "MONEY gets the rest.");
        Station s = new Station();
        for (int i = 0; i < 6; i++) {
            s.farm(10 + i);
        }
        s.bed(40);
        for (int i = 0; i < 6; i++) {
            s.pulp(s.bring(i, 4, 100), 0);
        }
        s.wash(0, 0, false);
        s.store(0);
        s.cup(0, 0);
        int money = s.many(6);
        // Two fifths of 7 are 2 for each of six FARMS: what is cut off of each is in the rest.
        Checks.equal("the rest of 42", s.sell(0, 7, true), 42 - 6 * 2);
        Checks.equal("MONEY", s.many(6) - money, 30);
        for (int i = 0; i < 6; i++) {
            Checks.equal("COINS of FARM " + i, s.ofFarm(i, 2), 20 + 2);
        }
        Station one = ofBoth(1, 0);
        Checks.equal("the rest of 1, of which the FARM gets nothing", one.sell(0, 1, false), 1);
    }

    /** Dries all BEDS to 80, without MOULD. */
    private static void dryAll(Station s, int beds) {
        for (int i = 0; i < 10; i++) {
            for (int bed = 0; bed < beds; bed++) {
                s.turn(bed);
            }
            s.pass(11, 40, 0);
        }
    }

    private static void theGreatestSale() {
        Checks.sentence("Section 4", "what it brings times its KILOS, times 2, divided by (5 times all KILOS); MONEY "
            + "gets the rest.");
        Station s = new Station();
        s.farm(22);
        s.label(0, 900);
        for (int i = 0; i < 5; i++) {
            s.bed(40);
        }
        int basketsLeft = 20;
        int lots = 0;
        while (basketsLeft > 0) {
            int beds = Math.min(5, (basketsLeft + 2) / 3);
            for (int bed = 0; bed < beds; bed++) {
                for (int i = 0; i < 3 && basketsLeft > 0; i++) {
                    s.pulp(s.bring(0, 200, 100), 0);
                    basketsLeft--;
                }
                s.wash(0, bed, true);
            }
            dryAll(s, beds);
            for (int bed = 0; bed < beds; bed++) {
                s.store(bed);
                lots++;
            }
        }
        for (int other = 1; other < lots; other++) {
            s.blend(0, other);
        }
        Checks.equal("the most KILOS that a LOT can have", s.ofLot(0, 0), 1000);
        Checks.equal("all of them CERTIFIED", s.ofLot(0, 3), 1000);
        Checks.equal("its SCORE", s.ofLot(0, 10), 68 + 22 + 1 - 3);
        s.cup(0, 0);
        Checks.equal("the FARM would get", s.wouldShare(0, 0, 200, true), 84000);
        Checks.equal("MONEY gets", s.sell(0, 200, true), 126000);
        Checks.equal("COINS", s.ofFarm(0, 2), 20000 + 84000);
        Checks.equal("MONEY", s.many(6), 126000 - 20000);
    }

    private static void soldKeepsMixAndReadings() {
        Checks.sentence("Section 4", "It is not in store any more, but keeps its MIX and its readings.");
        Station s = certified(3, 2);
        s.cup(0, 0);
        int[] before = new int[12];
        for (int what = 0; what <= 11; what++) {
            before[what] = s.ofLot(0, what);
        }
        s.sell(0, 9, true);
        s.pass(100, 0, 0);
        for (int what = 0; what <= 11; what++) {
            Checks.equal("ofLot(0, " + what + ") as it is sold", s.ofLot(0, what), what == 2 ? 0 : before[what]);
        }
        Checks.equal("KILOS of the FARM in it", s.kilosOf(0, 0), 5);
        Checks.equal("KILOS of the FARM in store", s.ofFarm(0, 4), 0);
        Checks.equal("KILOS in store", s.many(11), 0);
        Checks.equal("KILOS sold", s.many(12), 5);
        Checks.refused("CUPPING it", Checks.STATE, s, t -> t.cup(0, 0));
        Checks.refused("SELLING it again", Checks.STATE, s, t -> t.sell(0, 9, true));
        Checks.refused("asking for its share", Checks.STATE, s, t -> t.wouldShare(0, 0, 9, true));
    }
}
