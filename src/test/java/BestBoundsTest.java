/** Promises 21 to 26, sentence by sentence: ten at most and none at all, each tie of the rank, the bounds of taking. */
public final class BestBoundsTest {
    private static final int BAD = Run.BAD, NO = Run.NO, FULL = Run.FULL, NONE = Run.NONE;
    private static final Due DUE = new Due("BestBoundsTest");
    private static final String TEN_DOTS = "daa;dab;dac;dad;dae;daf;dag;dah;dai;daj;";
    /** By CITY a cell (x, y) is far by the less of x + y and 7 - x - y. */
    private static final String CORNERS = "g54;r#....;r.....;r.....;r....#;m099;";

    private BestBoundsTest() {
    }

    public static void main(String[] args) {
        bestRange();
        bestTenAtMost();
        bestNone();
        rankByPlace();
        rankByTurnAndFlip();
        rankByScale();
        rankByWorst();
        rankByIll();
        spreadRange();
        spreadApart();
        spreadTenAtMost();
        spreadFarthest();
        spreadNone();
        takeRange();
        takeBound();
        takeReach();
        takeNo();
        takeFull();
        takesRange();
        takesEight();
        takesStops();
        ledgerRange();
        ledgerKeeps();
        countRange();
        DUE.end();
    }

    private static Run run(String sentence) {
        return new Run(DUE, sentence);
    }

    private static void bestRange() {
        run("BAD (i below -1); NONE: not so many").laid(CORNERS + "dff;").are(BAD, "best -2 0", "best -3 0",
                "best LOW 0", "best LOW 6").is("best -1 0", 10).is("best -1 6", 10).is("best 9 0", 4)
                .are(NONE, "best 10 0", "best 11 6", "best HIGH 0");
        run("x (what = 0) .. WORST (6)").laid(CORNERS + "dff;").row("best 0", 0, 0, 2, 0, 0, 0, 0).are(BAD, "best 0 -1",
                "best 0 7", "best 9 7", "best 0 LOW", "best 0 HIGH", "best 0 256");
        run("BAD ahead of NONE").laid(CORNERS + "dff;").are(BAD, "best 10 7", "best 10 -1", "best HIGH HIGH",
                "best -2 7", "best -2 0");
        run("BAD: a number is none that is told").laid(CORNERS + "dff;").are(BAD, "best -1 7", "best -1 -1",
                "spread 1 -1 7", "spread 1 -1 -1", "ledger -1 7", "ledger -1 -1");
    }

    private static void bestTenAtMost() {
        // by scale 2 alone, at 3 places by 4 turns and flips: 12 in all
        run("the first 10 of them").laid("g45;dgj;").is("best -1 0", 10).is("best 9 5", 99).is("best 10 5", NONE)
                .is("fits", 3).then("turn 3 0 0").is("fits", 0);
        run("the first 10 of them, of as many as can be").laid("gbb;dff;").is("best -1 0", 10).is("best 9 0", 9)
                .is("best 10 0", NONE);
        run("the first 10 of them, of 8").laid("g44;dff;dii;").is("best -1 0", 8).row("best 7", 0, 0, 2, 3, 1, 198, 99)
                .are(NONE, "best 8 0", "best 9 0", "best 10 0");
        run("the first 10 of them, of 4").laid("g54;dff;dji;").is("best -1 0", 4).is("best 3 3", 2)
                .is("best 4 0", NONE);
    }

    private static void bestNone() {
        run("NONE: not so many, if none FITS").laid("g44;dff;dkf;").is("best -1 0", 0).are(NONE, "best 0 0", "best 0 6",
                "best 9 0").are(BAD, "best -2 0", "best 0 7").then("drop 1").is("best -1 0", 10).is("best 0 0", 0)
                .then("undo").is("best -1 0", 0).is("best 0 0", NONE);
    }

    private static void rankByPlace() {
        Run run = run("then the lower .. y, x").laid("g44;dff;m142;");
        for (int i = 0; i < 10; i++) {
            run.row("best " + i, i % 4, i / 4, 2, 0, 0, 42, 42);
        }
        Run wide = run("then the lower .. y, x").laid("gb4;dff;m101;");
        for (int i = 0; i < 10; i++) {
            wide.row("best " + i, i, 0, 2, 0, 0, 1, 1);
        }
        run("whatever is looked at").laid("g44;dff;").then("turn 4 3 1").row("best 9", 1, 2, 2, 0, 0, 99, 99)
                .then("best 0 0", "spread 1 0 0").is("count 8", 4).is("count 9", 3).is("count 10", 1);
    }

    /** Two dots in the corners of a square fit at one place each way. */
    private static void rankByTurnAndFlip() {
        Run run = run("then the lower .. t, f").laid("g44;dff;dii;");
        int[][] places = {{0, 0}, {3, 0}, {3, 0}, {3, 3}, {3, 3}, {0, 3}, {0, 3}, {0, 0}};
        for (int i = 0; i < 8; i++) {
            run.row("best " + i, places[i][0], places[i][1], 2, i / 2, i % 2, 198, 99);
        }
    }

    /** A pair of edges 2 apart in a column, by scale 2 and a turn, another 3 apart in a row, by scale 3 without. */
    private static void rankByScale() {
        Run run = run("then the lower s, t, f").laid("g75;r#......;r.......;r#......;r.......;r...#..#;dff;dhf;");
        int[][] poses = {{0, 0, 2, 1, 0}, {0, 2, 2, 1, 1}, {0, 2, 2, 3, 0}, {0, 0, 2, 3, 1}, {3, 4, 3, 0, 0},
            {6, 4, 3, 0, 1}, {6, 4, 3, 2, 0}, {3, 4, 3, 2, 1}};
        for (int i = 0; i < poses.length; i++) {
            int[] p = poses[i];
            run.row("best " + i, p[0], p[1], p[2], p[3], p[4], 0, 0);
        }
        run.is("best 8 5", 1);
    }

    /** Edges 5 apart: 1 and 1 off by scale 3 is ahead of 0 and 2 off by scale 2. */
    private static void rankByWorst() {
        Run run = run("then the less WORST, then the lower s").laid("g64;r#....#;dff;dhf;");
        int[][] poses = {{0, 0, 4, 0, 0, 1, 1}, {1, 0, 4, 0, 0, 1, 1}, {4, 0, 4, 0, 1, 1, 1}, {5, 0, 4, 0, 1, 1, 1},
            {4, 0, 4, 2, 0, 1, 1}, {5, 0, 4, 2, 0, 1, 1}, {0, 0, 4, 2, 1, 1, 1}, {1, 0, 4, 2, 1, 1, 1},
            {1, 0, 3, 0, 0, 2, 1}, {4, 0, 3, 0, 1, 2, 1}};
        for (int i = 0; i < poses.length; i++) {
            run.row("best " + i, poses[i]);
        }
        run.row("pose 0 0", 2, 2, 1, 1).is("count 8", 2);
    }

    /** Edges (0, 0) and (1, 1): one diagonal is 0 and 4 off, the other 3 and 3. */
    private static void rankByIll() {
        Run run = run("the less ILL first, though it is more WORST").laid("g44;r#...;r.#..;dff;dii;");
        int[][] poses = {{0, 0, 2, 0, 0, 4, 4}, {3, 3, 2, 1, 1, 4, 4}, {3, 3, 2, 2, 0, 4, 4}, {0, 0, 2, 3, 1, 4, 4},
            {3, 0, 2, 0, 1, 6, 3}, {3, 0, 2, 1, 0, 6, 3}, {0, 3, 2, 2, 1, 6, 3}, {0, 3, 2, 3, 0, 6, 3}};
        for (int i = 0; i < poses.length; i++) {
            run.row("best " + i, poses[i]);
        }
        // by scale 3 the offset -1 stays -1, while 1 is 2
        run("the less ILL first, of two scales").laid("g64;r#.....;dff;dgf;").row("best 0", 0, 0, 2, 0, 0, 1, 1)
                .row("best 1", 1, 0, 2, 0, 1, 1, 1).row("best 7", 0, 0, 2, 3, 1, 1, 1)
                .row("best 8", 1, 0, 3, 0, 1, 1, 1).row("best 9", 0, 1, 3, 1, 1, 1, 1);
        run("ILL 990, WORST 99").laid("gbb;" + TEN_DOTS).row("best 0", 5, 5, 2, 0, 0, 990, 99).is("best -1 0", 10);
        run("ILL 0, WORST 0").laid("g44;r####;r####;r####;r####;dff;").row("best 9", 1, 2, 2, 0, 0, 0, 0);
    }

    private static void spreadRange() {
        run("A (1 to 20)").laid(CORNERS + "dff;").are(BAD, "spread 0 0 0", "spread 21 0 0", "spread -1 0 0",
                "spread LOW 0 0", "spread HIGH 0 0", "spread 257 0 0").is("spread 1 0 0", 0).is("spread 20 0 0", 0)
                .is("spread 1 -1 0", 10).is("spread 20 -1 0", 1);
        run("likewise. BAD; NONE").laid(CORNERS + "dff;").are(BAD, "spread 1 -2 0", "spread 1 LOW 0", "spread 1 0 -1",
                "spread 1 0 7", "spread 1 0 LOW", "spread 1 0 HIGH").are(NONE, "spread 1 10 0", "spread 1 HIGH 6",
                "spread 20 1 0").is("spread 1 9 6", 2);
        run("BAD ahead of NONE").laid(CORNERS + "dff;").are(BAD, "spread 0 10 0", "spread 21 HIGH 0", "spread 1 10 7",
                "spread 20 1 -1");
    }

    private static void spreadIs(Run run, int a, int[][] places) {
        run.is("spread " + a + " -1 0", places.length);
        for (int i = 0; i < places.length; i++) {
            run.row("spread " + a + " " + i, places[i][0], places[i][1], 2, 0, 0);
        }
        run.is("spread " + a + " " + places.length + " 0", NONE);
    }

    /** All poses are alike, so they come by y, then x. */
    private static void spreadApart() {
        spreadIs(run("A or more by CITY from those of all ahead").laid("g44;dff;"), 2, new int[][] {{0, 0}, {2, 0},
            {1, 1}, {3, 1}, {0, 2}, {2, 2}, {1, 3}, {3, 3}});
        spreadIs(run("A or more by CITY").laid("g44;dff;"), 3, new int[][] {{0, 0}, {3, 0}, {1, 2}, {3, 3}});
        spreadIs(run("A or more by CITY").laid("g44;dff;"), 6, new int[][] {{0, 0}, {3, 3}});
        spreadIs(run("A or more by CITY").laid("g44;dff;"), 7, new int[][] {{0, 0}});
        spreadIs(run("by CITY, whatever the MEASURE").laid("g44;dff;m199;"), 6, new int[][] {{0, 0}, {3, 3}});
        spreadIs(run("by CITY, whatever the MEASURE").laid("g44;dff;m299;"), 7, new int[][] {{0, 0}});
    }

    private static void spreadTenAtMost() {
        spreadIs(run("10 at most, of 10").laid("g54;dff;"), 2, new int[][] {{0, 0}, {2, 0}, {4, 0}, {1, 1}, {3, 1},
            {0, 2}, {2, 2}, {4, 2}, {1, 3}, {3, 3}});
        spreadIs(run("10 at most, of 12").laid("g64;dff;"), 2, new int[][] {{0, 0}, {2, 0}, {4, 0}, {1, 1}, {3, 1},
            {5, 1}, {0, 2}, {2, 2}, {4, 2}, {1, 3}});
        spreadIs(run("10 at most, by 1").laid("g44;dff;"), 1, new int[][] {{0, 0}, {1, 0}, {2, 0}, {3, 0}, {0, 1},
            {1, 1}, {2, 1}, {3, 1}, {0, 2}, {1, 2}});
        // of 8 poses at the four corners each corner's first one
        Run corners = run("A or more: two POSES at one PLACE are none apart").laid("g44;dff;dii;");
        corners.is("spread 1 -1 0", 4).row("spread 1 0", 0, 0, 2, 0, 0).row("spread 1 1", 3, 0, 2, 0, 1)
                .row("spread 1 2", 3, 3, 2, 1, 1).row("spread 1 3", 0, 3, 2, 2, 1).is("spread 1 4 0", NONE)
                .is("spread 3 -1 0", 4).is("spread 4 -1 0", 2).row("spread 4 1", 3, 3, 2, 1, 1, 198, 99);
    }

    private static void spreadFarthest() {
        spreadIs(run("A of 20").laid("gbb;dff;"), 20, new int[][] {{0, 0}, {10, 10}});
        spreadIs(run("A of 19").laid("gbb;dff;"), 19, new int[][] {{0, 0}, {10, 9}});
        spreadIs(run("A of 10").laid("gbb;dff;"), 10, new int[][] {{0, 0}, {10, 0}, {5, 5}, {0, 10}, {10, 10}});
        run("asked by one A, then another").laid("gbb;dff;").is("spread 20 1 0", 10).is("spread 10 1 1", 0)
                .is("spread 20 1 1", 10).is("spread 1 1 1", 0).then("edge 5 5 1").is("spread 1 0 0", 5)
                .is("spread 20 -1 0", 1).then("undo").is("spread 20 -1 0", 2).is("spread 1 0 0", 0);
    }

    private static void spreadNone() {
        run("NONE, if none FITS").laid("g44;dff;dkf;").is("spread 1 -1 0", 0).is("spread 20 -1 0", 0)
                .are(NONE, "spread 1 0 0", "spread 20 9 6").are(BAD, "spread 0 -1 0", "spread 21 0 0", "spread 1 -2 0");
        run("the first one of all").laid("g44;dff;").is("spread 20 -1 0", 1).row("spread 20 0", 0, 0, 2, 0, 0, 99, 99)
                .is("spread 20 1 0", NONE);
    }

    private static void takeRange() {
        run("by T (0 to 3)").laid("g54;r#####;dff;").are(BAD, "take -1 0", "take 4 0", "take LOW 0", "take HIGH 0",
                "take 256 0").is("take 0 0", 1).is("take 3 990", 4).is("count 2", 0);
        run("a bound of ILL (0 to 990)").laid("g54;r#####;dff;").are(BAD, "take 0 -1", "take 0 991", "take 0 LOW",
                "take 0 HIGH", "take 3 1000").is("take 0 990", 1).is("take 0 0", 1).is("ledger -1 0", 2);
        run("BAD ahead of NO").laid("g44;dff;").are(NO, "take 0 0", "take 3 990").are(BAD, "take 4 0", "take -1 990",
                "take 0 991", "take 3 -1");
    }

    private static void takeBound() {
        run("if it is no more ILL than a bound").laid(CORNERS + "dff;dgf;").is("best 0 5", 1).is("take 0 0", NO)
                .is("take 3 0", NO).is("take 0 1", 1).is("best 0 5", 1).is("take 0 0", NO).is("take 0 1", 1)
                .is("take 0 990", NO);
        run("if it is no more ILL than a bound, of 12").laid("g44;r....;r.#..;dff;dif;dfi;dii;").is("best 0 5", 12)
                .is("take 2 11", NO).is("take 2 12", 1).is("ledger 0 5", 12).is("count 2", 0);
        // ten dots in a row from the edge on, by SLANT: 0, 3, .. 27 together
        run("ILL beyond 99").laid("gbb;" + TEN_DOTS + "m299;").then("edge 0 10 1").is("best 0 5", 135)
                .is("take 3 134", NO).is("take 3 135", 1).is("ledger 0 5", 135);
    }

    private static void takeReach() {
        String row = "g64;r######;dff;m";
        run("TOLD by T: CITY").laid(row + "099;").is("take 0 0", 1).are(0, "cell 0 0").is("cell 1 0", 1).then("undo")
                .is("take 2 0", 3).is("cell 2 0", 0).is("cell 3 0", 1).then("undo").is("take 3 0", 4)
                .is("cell 3 0", 0).is("cell 4 0", 1).is("count 2", 2);
        run("TOLD by T: SLANT").laid(row + "299;").is("take 2 0", 1).is("cell 1 0", 1).then("undo").is("take 3 0", 2)
                .is("cell 1 0", 0).is("cell 2 0", 1);
        run("TOLD by the first of the BEST, not by what was asked").laid(CORNERS + "dff;").is("tells 4 3 0", 1)
                .is("take 0 0", 1).is("cell 0 0", 0).is("cell 4 3", 1);
        run("TOLD by T, whatever CAP is").laid(row + "001;").is("take 3 0", 4).is("cell 3 0", 0).is("cell 4 0", 1);
        run("how many EDGES went: all").laid("g44;r####;r####;r####;r####;dff;dii;m199;").is("take 3 0", 16)
                .is("count 2", 0).is("ledger 0 6", 16).is("undo", 0).is("count 2", 16);
    }

    private static void takeNo() {
        run("NO: there is no BEST").laid("g44;r####;dff;dkf;").is("take 3 990", NO).is("takes 3 990", 0)
                .is("count 2", 4).then("drop 1").is("take 3 990", 4);
        run("NO: it tells no EDGE").laid("g44;r....;r.#..;dff;dif;dfi;dii;").is("take 1 990", NO).is("take 0 990", NO)
                .is("take 2 990", 1);
        run("NO: it tells no EDGE, for there is none").laid("g44;dff;").is("take 3 990", NO).is("count 6", 0)
                .then("edge 3 3 1").is("take 3 990", 1).is("take 3 990", NO).is("count 6", 2);
        // one diagonal is 1 and 1 off, ahead of the other, which is 0 and 2 off and would tell an edge by 0
        run("the first of the BEST alone").laid("g44;r.#.#;r....;r....;r..#.;dff;dii;")
                .row("best 0", 0, 0, 2, 0, 0, 2, 1)
                .is("take 0 990", NO).is("takes 0 990", 0).then("turn 2 0 1").row("pose 3 0", 2, 2, 1, 1)
                .is("tells 3 0 0", 1).is("take 1 1", NO).is("take 1 2", 2);
    }

    private static void takeFull() {
        run("FULL: 8").laid("g54;r#####;r####.;dff;").is("takes 0 0", 8).is("count 2", 1).are(FULL, "take 0 0",
                "take 3 990").are(BAD, "take 4 0", "take 0 991", "take -1 -1").is("ledger -1 0", 8).is("undo", 5)
                .is("take 0 0", 1).is("take 0 0", FULL).is("ledger -1 0", 8);
        run("FULL ahead of NO").laid("g54;r####.;r####.;dff;").is("takes 0 0", 8).is("count 2", 0).is("take 0 0", FULL)
                .then("dot 5 0").is("best -1 0", 0).is("take 0 0", FULL).then("undo", "undo").is("take 0 0", 1)
                .is("take 0 0", FULL);
        run("FULL: 8, one by one").laid("g54;r#####;r#####;dff;").are(1, "take 0 0", "take 0 0", "take 0 0", "take 0 0",
                "take 0 0", "take 0 0", "take 0 0").is("ledger -1 0", 7).is("take 0 0", 1).is("ledger -1 0", 8)
                .is("take 0 0", FULL).is("count 2", 2);
    }

    private static void takesRange() {
        run("by T (0 to 3), a bound of ILL (0 to 990)").laid("g54;r#####;dff;").are(BAD, "takes -1 0", "takes 4 0",
                "takes 0 -1", "takes 0 991", "takes LOW 0", "takes HIGH 0", "takes 0 LOW", "takes 0 HIGH",
                "takes 256 0").is("takes 3 990", 2).is("count 2", 0).is("takes 0 0", 0).is("takes 4 0", BAD);
        run("BAD, if the LEDGER is full too").laid("g54;r#####;r#####;dff;").is("takes 0 990", 8).is("takes 0 990", 0)
                .are(BAD, "takes 4 0", "takes 0 991");
    }

    private static void takesEight() {
        for (int edges : new int[] {0, 1, 7, 8, 9, 10}) {
            Run run = run("8 times at most: how often, of " + edges).laid("g54;dff;");
            for (int cell = 0; cell < edges; cell++) {
                run.then("edge " + cell % 5 + " " + cell / 5 + " 1");
            }
            int times = Math.min(edges, 8);
            run.is("takes 0 0", times).is("count 2", edges - times).is("ledger -1 0", times).is("takes 0 0", 0);
        }
        run("8 times at most, with some in the LEDGER").laid("g54;r#####;r#####;dff;").then("take 0 0", "take 0 0",
                "take 0 0").is("takes 0 0", 5).is("count 2", 2).is("ledger -1 0", 8)
                .row("ledger 7", 2, 1, 2, 0, 0, 0, 1).is("undo", 5).is("takes 0 0", 1).is("takes 0 0", 0)
                .is("count 6", 6);
    }

    private static void takesStops() {
        run("as long as it can be: more ILL").laid("g54;r##..#;dff;dgf;m099;").is("takes 0 0", 1).is("count 2", 1)
                .is("takes 0 0", 0).is("takes 0 1", 1).is("ledger 1 5", 1).is("count 2", 0);
        run("as long as it can be: tells no EDGE").laid("g44;r....;r.#..;dff;dif;dfi;dii;").is("takes 1 990", 0)
                .is("takes 2 990", 1).is("takes 3 990", 0);
        run("as long as it can be: not at all").laid("g44;dff;").is("takes 3 990", 0).is("undo", NO);
        run("each TAKEN is a change").laid("g54;r###..;dff;").is("takes 0 0", 3).is("count 6", 3).is("undo", 2)
                .is("count 2", 1).is("cell 2 0", 1).is("undo", 1).is("undo", 0).is("undo", NO).is("count 2", 3);
    }

    private static void ledgerRange() {
        run("BAD (i below -1); NONE: not so many").laid("g54;r#####;r#####;dff;").is("ledger -1 0", 0)
                .are(NONE, "ledger 0 0", "ledger 0 6", "ledger 7 0", "ledger HIGH 6").are(BAD, "ledger -2 0",
                "ledger LOW 0", "ledger 0 7", "ledger 0 -1").is("takes 0 0", 8).is("ledger -1 0", 8)
                .is("ledger -1 6", 8).row("ledger 0", 0, 0, 2, 0, 0, 0, 1).row("ledger 7", 2, 1, 2, 0, 0, 0, 1)
                .are(NONE, "ledger 8 0", "ledger 8 6", "ledger HIGH 6").are(BAD, "ledger -2 0", "ledger -2 6",
                "ledger LOW 6", "ledger 0 7", "ledger 7 -1", "ledger 7 LOW", "ledger 7 HIGH");
        run("BAD ahead of NONE").laid("g44;dff;").are(BAD, "ledger 0 7", "ledger 8 -1", "ledger HIGH HIGH");
    }

    private static void ledgerKeeps() {
        run("the first first, as it was").laid(CORNERS + "dff;dgf;").is("take 0 1", 1).is("take 0 1", 1)
                .row("ledger 0", 0, 0, 2, 0, 0, 1, 1).row("ledger 1", 3, 3, 2, 0, 0, 1, 1).then("measure 2 9",
                "drop 0", "edge 2 2 1").row("ledger 0", 0, 0, 2, 0, 0, 1, 1).row("ledger 1", 3, 3, 2, 0, 0, 1, 1)
                .then("undo", "undo", "undo", "undo").is("ledger -1 0", 1).is("ledger 1 0", NONE)
                .row("ledger 0", 0, 0, 2, 0, 0, 1, 1);
        run("ILL (5), how many EDGES went (6)").laid("g54;r#....;r#....;r#....;dff;djf;m099;").is("best 0 5", 4)
                .is("take 2 4", 3).row("ledger 0", 0, 0, 2, 0, 0, 4, 3);
        run("s (2), t (3), f (4)").is("take 0 0", 6).is("take 0 0", 6).row("ledger 0", 1, 9, 2, 0, 0, 0, 6)
                .row("ledger 1", 7, 5, 2, 0, 1, 0, 6);
        run("s (2), t (3), f (4)").laid("g64;r#....#;dff;dhf;").is("take 0 1", 1).row("ledger 0", 0, 0, 4, 0, 0, 1, 1);
        run("s (2), t (3), f (4)").laid("g64;r.....#;r.....#;r.....#;r.....#;dff;dgf;dig;").then("best 0 0")
                .is("take 0 990", 2).row("ledger 0", 5, 0, 2, 1, 0, 1, 2);
    }

    private static void countRange() {
        run("How many: 0 W .. 10 f").laid("g6a;r#.#.#.;dff;dab;m207;").then("turn 3 2 1", "edge 5 9 1")
                .row("count", 6, 10, 4, 2, 2, 7, 1, 25, 3, 2, 1).are(BAD, "count -1", "count 11", "count LOW",
                "count HIGH", "count 256");
        run("How many, the least").laid("g44;dff;m001;").then("wipe").row("count", 4, 4, 0, 1, 0, 1, 0, 0, 2, 0, 0);
        run("How many, the most").laid("gbb;" + "r#.........#;".repeat(11) + TEN_DOTS + "m299;").then("write 32",
                "write 32", "write 32", "write 32", "write 32", "write 32", "write 32", "write 32", "write 32",
                "turn 4 3 1", "edge 1 0 1", "edge 2 0 1", "edge 3 0 1", "edge 4 0 1", "edge 5 0 1", "edge 6 0 1",
                "edge 7 0 1").row("count", 11, 11, 29, 10, 2, 99, 6, 200, 4, 3, 1);
    }
}
