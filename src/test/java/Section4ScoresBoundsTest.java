/** Section 4, scores: each sentence there on faults, scores and causes that names a boundary case. */
public final class Section4ScoresBoundsTest {
    public static void main(String[] args) {
        unripe();
        fermentOfWashedOnes();
        fermentIsNoFaultOfOthers();
        mouldIsTwiceForNaturalOnes();
        moistureAboveAndBelow();
        ageByThirty();
        heightIsRoundedDown();
        moreForHoneyAndNatural();
        scoreIs40AtLeast();
        causeIsTheGreatest();
        causeIs0WithoutFaults();
        Checks.end();
    }

    private static Station stationOf(int height) {
        Station s = new Station();
        s.farm(height);
        s.bed(40);
        return s;
    }

    /** The LOT 0 of a new station whose FARM has the HEIGHT 12, so that its SCORE is 80 without FAULTS, if WASHED. */
    private static Station lotOf(Batch batch) {
        Station s = stationOf(12);
        batch.store(s, 0);
        return s;
    }

    private static void score(String what, Station s, int score, int cause) {
        Checks.equal("the SCORE of " + what, s.ofLot(0, 10), score);
        Checks.equal("the CAUSE of " + what, s.ofLot(0, 11), cause);
    }

    /** As score, for one FAULT of this number; 0 of it has no CAUSE. */
    private static void fault(String what, Station s, int scoreWithout, int fault, int number) {
        score(what, s, scoreWithout - fault, fault == 0 ? 0 : number);
    }

    private static void unripe() {
        Checks.sentence("Section 4", "1 UNRIPE: (100 less RIPE) / 5.");
        int[][] ripeAndFault = {{100, 0}, {99, 0}, {96, 0}, {95, 1}, {91, 1}, {90, 2}, {50, 10}, {6, 18}, {5, 19}, {1, 19},
            {0, 20}};
        for (int[] row : ripeAndFault) {
            fault("RIPE " + row[0], lotOf(Batch.natural().ripe(row[0])), 82, row[1], 1);
        }
    }

    private static void fermentOfWashedOnes() {
        Checks.sentence("Section 4", "2 FERMENT, if it is WASHED: with POINTS below 60 (60 less these) / 5, above "
            + "100 (these less 100) / 5; 0 for others.");
        int[][] pointsAndFault = {{0, 12}, {1, 11}, {5, 11}, {6, 10}, {54, 1}, {55, 1}, {56, 0}, {59, 0}, {60, 0}, {61, 0},
            {99, 0}, {100, 0}, {101, 0}, {104, 0}, {105, 1}, {109, 1}, {110, 2}, {299, 39}};
        for (int[] row : pointsAndFault) {
            fault("POINTS " + row[0], lotOf(Batch.washed(row[0])), 80, row[1], 2);
        }
        score("POINTS 300", lotOf(Batch.washed(300)), 40, 2);
        score("POINTS 305, at least", lotOf(Batch.washed(305)), 40, 2);
    }

    private static void fermentIsNoFaultOfOthers() {
        Checks.sentence("Section 4", "2 FERMENT, if it is WASHED:");
        score("HONEY without POINTS", lotOf(Batch.honey(0)), 81, 0);
        score("HONEY with POINTS", lotOf(Batch.honey(29)), 81, 0);
        score("a NATURAL one, without POINTS", lotOf(Batch.natural()), 82, 0);
        score("a WASHED one without POINTS", lotOf(Batch.washed(0)), 68, 2);
    }

    private static void mouldIsTwiceForNaturalOnes() {
        Checks.sentence("Section 4", "3 MOULD: its MOULD, twice that, if it is NATURAL.");
        for (int mould = 0; mould <= 3; mould++) {
            fault("WASHED, MOULD " + mould, lotOf(Batch.washed(60).mould(mould)), 80, mould, 3);
            fault("HONEY, MOULD " + mould, lotOf(Batch.honey(0).mould(mould)), 81, mould, 3);
            fault("NATURAL, MOULD " + mould, lotOf(Batch.natural().mould(mould)), 82, 2 * mould, 3);
        }
    }

    private static void moistureAboveAndBelow() {
        Checks.sentence("Section 4", "4 MOISTURE: above 125 (it less 125) / 10, below 95 (95 less it) / 5.");
        int[][] moistureAndFault = {{80, 3}, {81, 2}, {85, 2}, {86, 1}, {90, 1}, {91, 0}, {94, 0}, {95, 0}, {96, 0}, {124, 0},
            {125, 0}, {126, 0}, {134, 0}, {135, 1}, {136, 1}, {144, 1}, {145, 2}, {544, 41}};
        for (int[] row : moistureAndFault) {
            fault("MOISTURE " + row[0], lotOf(Batch.natural().moisture(row[0])), 82, row[1], 4);
        }
        score("MOISTURE 600", lotOf(Batch.natural().moisture(600)), 40, 4);
    }

    private static void ageByThirty() {
        Checks.sentence("Section 4", "5 AGE: its AGE / 30.");
        Station s = lotOf(Batch.natural());
        int[][] ageAndFault = {{0, 0}, {1, 0}, {29, 0}, {30, 1}, {31, 1}, {59, 1}, {60, 2}, {89, 2}, {90, 3}, {779, 25},
            {780, 26}};
        for (int[] row : ageAndFault) {
            Checks.passLong(s, 24 * (row[0] - s.ofLot(0, 8)), 0, 0);
            Checks.equal("AGE", s.ofLot(0, 8), row[0]);
            fault("AGE " + row[0], s, 82, row[1], 5);
        }
    }

    private static void heightIsRoundedDown() {
        Checks.sentence("Section 4", "Its SCORE is 68 and its HEIGHT (the sum over FARMS of KILOS times HEIGHT, "
            + "divided by all KILOS)");
        // KILOS of HEIGHT 10, of 22 and of 15, and the HEIGHT of them all.
        int[][] kilosAndHeight = {{1, 0, 0, 10}, {0, 1, 0, 22}, {11, 1, 0, 11}, {12, 1, 0, 10}, {1, 11, 0, 21}, {1, 12, 0, 21},
            {1, 1, 0, 16}, {1, 1, 1, 15}, {2, 1, 1, 14}, {4, 0, 1, 11}, {5, 0, 1, 10}, {1, 1, 10, 15}};
        for (int[] row : kilosAndHeight) {
            Station s = stationOf(10);
            s.farm(22);
            s.farm(15);
            for (int farm = 0; farm <= 2; farm++) {
                if (row[farm] > 0) {
                    s.pulp(s.bring(farm, 4 * row[farm], 100), 0);
                }
            }
            s.wash(0, 0, true);
            Batch.dry(s, 0, 110);
            s.store(0);
            Checks.equal("KILOS", s.ofLot(0, 0), row[0] + row[1] + row[2]);
            score(row[0] + ", " + row[1] + ", " + row[2] + " KILOS", s, 68 + row[3] + 1, 0);
        }
        Station six = new Station();
        six.bed(40);
        for (int farm = 0; farm < 6; farm++) {
            six.farm(farm == 5 ? 22 : 10);
            six.pulp(six.bring(farm, 4, 100), 0);
        }
        six.wash(0, 0, true);
        Batch.dry(six, 0, 110);
        six.store(0);
        score("one KILO of each of six FARMS, one of them of 22", six, 68 + 12 + 1, 0);
    }

    private static void moreForHoneyAndNatural() {
        Checks.sentence("Section 4", "1 more, if it is HONEY, 2 more, if it is NATURAL, less all FAULTS;");
        for (int height = 10; height <= 22; height += 12) {
            Batch[] batches = {Batch.washed(60), Batch.honey(0), Batch.natural()};
            for (int method = 0; method <= 2; method++) {
                Station s = stationOf(height);
                batches[method].store(s, 0);
                score("METHOD " + method + ", HEIGHT " + height, s, 68 + height + method, 0);
            }
        }
        Station s = lotOf(Batch.washed(50).ripe(90).mould(2).moisture(145));
        Checks.passLong(s, 24 * 60, 0, 0);
        score("all five FAULTS of 2", s, 80 - 10, 1);
    }

    private static void scoreIs40AtLeast() {
        Checks.sentence("Section 4", "less all FAULTS; 40 at least.");
        int[][] moistureAndScore = {{505, 42}, {514, 42}, {515, 41}, {524, 41}, {525, 40}, {534, 40}, {535, 40}, {600, 40}};
        for (int[] row : moistureAndScore) {
            Station s = stationOf(10);
            Batch.natural().moisture(row[0]).store(s, 0);
            score("MOISTURE " + row[0], s, row[1], 4);
        }
        Station s = stationOf(22);
        s.bring(0, 200, 0);
        s.pulp(0, 0);
        Checks.passLong(s, 15000, 40, 0);
        s.wash(0, 0, false);
        Checks.passLong(s, 4900, 0, 20);
        s.store(0);
        score("the greatest FAULTS", s, 40, 2);
        Checks.equal("its POINTS", s.ofLot(0, 5), 150000);
        Checks.same("the mean SCORE", s.meanScore(), 40.0);
    }

    private static void causeIsTheGreatest() {
        Checks.sentence("Section 4", "Its CAUSE is the FAULT that is greatest (of several the smallest number);");
        // RIPE, POINTS, MOULD, MOISTURE and days of a WASHED one: each FAULT is 1 or 2, if any; then all, and the CAUSE.
        int[][] rows = {{95, 55, 0, 110, 0, 2, 1}, {95, 50, 0, 110, 0, 3, 2}, {90, 55, 0, 110, 0, 3, 1},
            {100, 55, 1, 110, 0, 2, 2}, {100, 55, 2, 110, 0, 3, 3}, {100, 105, 1, 110, 0, 2, 2},
            {100, 60, 1, 135, 0, 2, 3}, {100, 60, 1, 145, 0, 3, 4}, {100, 60, 1, 90, 0, 2, 3}, {100, 60, 1, 85, 0, 3, 4},
            {100, 60, 0, 135, 30, 2, 4}, {100, 60, 0, 135, 60, 3, 5}, {95, 60, 0, 110, 30, 2, 1}, {95, 60, 0, 110, 60, 3, 5},
            {100, 55, 0, 110, 30, 2, 2}, {100, 60, 1, 110, 30, 2, 3}, {95, 60, 0, 135, 0, 2, 1}, {95, 60, 1, 110, 0, 2, 1},
            {95, 55, 1, 135, 30, 5, 1}, {95, 55, 1, 135, 60, 6, 5}, {95, 55, 2, 145, 60, 8, 3}};
        for (int i = 0; i < rows.length; i++) {
            int[] r = rows[i];
            Station s = lotOf(Batch.washed(r[1]).ripe(r[0]).mould(r[2]).moisture(r[3]));
            Checks.passLong(s, 24 * r[4], 0, 0);
            score("row " + i, s, 80 - r[5], r[6]);
        }
        score("NATURAL, MOULD of twice 1, MOISTURE of 2", lotOf(Batch.natural().mould(1).moisture(145)), 82 - 4, 3);
        score("NATURAL, MOULD of twice 1, MOISTURE of 3", lotOf(Batch.natural().mould(1).moisture(155)), 82 - 5, 4);
    }

    private static void causeIs0WithoutFaults() {
        Checks.sentence("Section 4", "0, if all are 0.");
        score("a WASHED one, all just without FAULTS", lotOf(Batch.washed(56).ripe(96).moisture(134)), 80, 0);
        score("another", lotOf(Batch.washed(104).ripe(96).moisture(91)), 80, 0);
        score("HONEY", lotOf(Batch.honey(29)), 81, 0);
        Station s = lotOf(Batch.natural());
        Checks.passLong(s, 24 * 29, 0, 0);
        score("a NATURAL one of 29 days", s, 82, 0);
    }
}
