/** Promises 15 to 20, sentence by sentence: the first place that fits and the last, boxes cut by the grid, reach. */
public final class PoseBoundsTest {
    private static final int BAD = Run.BAD, NONE = Run.NONE;
    private static final Due DUE = new Due("PoseBoundsTest");
    /** By CITY a cell (x, y) is far by the less of x + y and 7 - x - y. */
    private static final String CORNERS = "g54;r#....;r.....;r.....;r....#;m099;";
    private static final String TEN_DOTS = "daa;dab;dac;dad;dae;daf;dag;dah;dai;daj;";
    private static final String ALL_EDGES = "gbb;" + "r###########;".repeat(11);

    private PoseBoundsTest() {
    }

    public static void main(String[] args) {
        turnRange();
        liesRange();
        liesByScale();
        liesTurned();
        poseRange();
        poseFits();
        poseScaled();
        poseBesideItsPlace();
        illAndWorst();
        illMost();
        fitsCounts();
        boundRange();
        boundLeftOut();
        boundNone();
        boundIsIll();
        tellsRange();
        tellsNoMoreThanReach();
        tellsOnce();
        tellsAll();
        DUE.end();
    }

    private static Run run(String sentence) {
        return new Run(DUE, sentence);
    }

    private static void turnRange() {
        run("SCALE s (2, 3, 4)").is("turn 4 3 1", 0).are(BAD, "turn 1 0 0", "turn 5 0 0", "turn 0 0 0", "turn -2 0 0",
                "turn LOW 0 0", "turn HIGH 0 0", "turn 258 0 0").is("count 8", 4).is("turn 2 0 0", 0).is("count 8", 2)
                .is("turn 3 0 0", 0).is("count 8", 3);
        run("TURN t (0 to 3)").is("turn 3 1 1", 0).are(BAD, "turn 3 -1 1", "turn 3 4 1", "turn 3 LOW 1",
                "turn 3 HIGH 1", "turn 3 256 0").is("count 9", 1).is("turn 3 3 1", 0).is("count 9", 3)
                .is("turn 3 0 1", 0).is("count 9", 0).is("turn 3 2 1", 0).is("count 9", 2);
        run("FLIP f (0, 1)").is("turn 3 1 1", 0).are(BAD, "turn 3 1 -1", "turn 3 1 2", "turn 3 1 LOW", "turn 3 1 HIGH",
                "turn 3 1 257").is("count 10", 1).is("turn 3 1 0", 0).is("count 10", 0);
        run("s, t, f are looked at: 0, again too").is("turn 2 0 0", 0).is("turn 2 0 0", 0).is("turn 3 3 1", 0)
                .is("turn 3 3 1", 0).is("count 6", 0).is("undo", Run.NO);
        run("nothing changes then, of any of the three").is("turn 3 2 1", 0).are(BAD, "turn 2 0 2", "turn 2 4 0",
                "turn 5 0 0").is("count 8", 3).is("count 9", 2).is("count 10", 1);
    }

    private static void liesRange() {
        run("DOTS such as there are; x (what = 0), y (1)").laid("gbb;dgh;dab;").are(BAD, "lies -1 0", "lies 2 0",
                "lies 10 0", "lies LOW 0", "lies HIGH 1", "lies 0 -1", "lies 0 2", "lies 1 LOW", "lies 1 HIGH",
                "lies 2 2").row("lies 0", 101, 102).row("lies 1", 95, 96).then("dot 5 5").row("lies 2", 105, 105)
                .then("drop 0").is("lies 2 0", BAD).row("lies 1", 105, 105);
        run("DOTS such as there are, ten").laid("gbb;" + TEN_DOTS).row("lies 9", 95, 104).is("lies 10 0", BAD);
    }

    /** Each offset by each scale: times s, and 1, by 2, rounded down. */
    private static void liesByScale() {
        int[] byThree = {-7, -6, -4, -3, -1, 0, 2, 3, 5, 6, 8};
        for (int offset = -5; offset <= 5; offset++) {
            char letter = (char) ('f' + offset);
            run("times s, and 1, by 2, rounded down, of " + offset).laid("gbb;d" + letter + "f;").then("turn 2 0 0")
                    .row("lies 0", 100 + offset, 100).then("turn 3 0 0").row("lies 0", 100 + byThree[offset + 5], 100)
                    .then("turn 4 0 0").row("lies 0", 100 + 2 * offset, 100).then("turn 3 1 0")
                    .row("lies 0", 100, 100 + byThree[offset + 5]).then("turn 3 0 1")
                    .row("lies 0", 100 + byThree[5 - offset], 100);
        }
    }

    private static void liesTurned() {
        int[][] turned = {{1, 3}, {-3, 1}, {-1, -3}, {3, -1}, {-1, 3}, {-3, -1}, {1, -3}, {3, 1}};
        for (int manner = 0; manner < 8; manner++) {
            int x = turned[manner][0];
            int y = turned[manner][1];
            String turn = " " + manner % 4 + " " + manner / 4;
            run("if f is 1, -X for X; t times: -Y for X and X for Y" + turn).laid("gbb;dgi;").then("turn 2" + turn)
                    .row("lies 0", 100 + x, 100 + y).then("turn 4" + turn).row("lies 0", 100 + 2 * x, 100 + 2 * y);
        }
    }

    private static void poseRange() {
        run("ILL (what = 0), WORST (1), the first DOT (2), how many (3)").laid(CORNERS + "dff;dgf;").row("pose 0 0", 1,
                1, 1, 1).are(BAD, "pose 0 0 -1", "pose 0 0 4", "pose 0 0 LOW", "pose 0 0 HIGH", "pose 0 0 256");
        run("a PLACE, which is a CELL").laid(CORNERS + "dff;").are(BAD, "pose -1 0 0", "pose 5 0 0", "pose 0 -1 0",
                "pose 0 4 0", "pose LOW 0 0", "pose HIGH 0 0", "pose 0 LOW 0", "pose 0 HIGH 0", "pose 256 0 0")
                .is("pose 4 0 0", 3).is("pose 0 3 0", 3).is("pose 4 3 0", 0).is("pose 0 0 0", 0);
        run("BAD; NONE").laid(CORNERS + "dff;dgf;").are(NONE, "pose 4 0 0", "pose 4 3 3").are(BAD, "pose 4 0 4",
                "pose 4 3 -1", "pose 5 0 0");
        run("a CELL alone is a PLACE, though the DOT would LIE on one").laid(CORNERS + "def;").is("pose 4 0 0", 3)
                .are(BAD, "pose 5 0 0").is("pose 0 0 0", NONE).then("turn 2 0 1").is("pose 0 0 0", 1)
                .is("pose -1 0 0", BAD).is("pose 4 0 0", NONE);
    }

    /** Dots at (-1, -2) and (2, 1): 1 to the left, 2 to the right, 2 above, 1 below. */
    private static void poseFits() {
        run("A POSE FITS, if all DOTS LIE on CELLS").laid("g67;ded;dhg;").are(198, "pose 1 2 0", "pose 3 2 0",
                "pose 1 5 0", "pose 3 5 0").are(NONE, "pose 0 2 0", "pose 4 2 0", "pose 1 1 0", "pose 1 6 0",
                "pose 0 0 1", "pose 5 6 2", "pose 4 6 3").are(BAD, "pose 6 2 0", "pose 1 7 0", "pose -1 2 0")
                .is("fits", 12);
        run("A POSE FITS, turned").laid("g67;ded;dhg;").then("turn 2 1 0").are(198, "pose 1 1 0", "pose 3 1 0",
                "pose 1 4 0", "pose 3 4 0").are(NONE, "pose 0 1 0", "pose 4 1 0", "pose 1 0 0", "pose 1 5 0")
                .is("fits", 12);
    }

    private static void poseScaled() {
        run("A POSE FITS, larger").laid("g67;ded;dhg;").then("turn 3 0 0").are(198, "pose 1 3 0", "pose 2 3 0",
                "pose 1 4 0", "pose 2 4 0").are(NONE, "pose 0 3 0", "pose 3 3 0", "pose 1 2 0", "pose 1 5 0")
                .is("fits", 4).then("turn 3 0 1").are(198, "pose 3 3 0", "pose 3 4 0").are(NONE, "pose 2 3 0",
                "pose 4 3 0").is("fits", 2).then("turn 3 1 0").is("fits", 6).then("turn 4 0 0").is("fits", 0)
                .are(NONE, "pose 2 4 0", "pose 3 3 0").is("pose 6 0 0", BAD);
    }

    private static void poseBesideItsPlace() {
        run("all DOTS LIE on CELLS, far from the PLACE").laid("g66;dkk;").is("pose 0 0 0", 99).are(NONE, "pose 1 0 0",
                "pose 0 1 0", "pose 5 5 0").is("fits", 1).then("turn 2 2 0").is("pose 5 5 0", 99).is("pose 0 0 0", NONE)
                .is("fits", 1).then("turn 3 0 0").is("fits", 0);
        run("the farthest that a DOT LIES").laid("gbb;dkk;").then("turn 4 0 0").is("pose 0 0 0", 99).is("fits", 1)
                .then("turn 4 2 0").is("pose 10 10 0", 99).is("pose 0 0 0", NONE).is("fits", 1).then("turn 3 0 0")
                .is("fits", 9).then("turn 3 2 0").is("fits", 16).then("turn 3 1 0").is("fits", 12);
    }

    private static void illAndWorst() {
        run("FAR of all together; the greatest; the first that is so FAR").laid(CORNERS + "dff;dgf;dfh;")
                .row("pose 0 0", 3, 2, 2, 1).row("pose 3 1", 6, 3, 0, 0).row("pose 2 1", 8, 3, 0, 0)
                .row("pose 0 1", 6, 3, 2, 0);
        run("the first DOT, of two so FAR").laid(CORNERS + "dff;dfg;dgf;").row("pose 0 0", 2, 1, 1, 1);
        run("the first DOT, the last alone is so FAR").laid(CORNERS + "dgf;dff;dhf;").row("pose 0 0", 3, 2, 2, 1);
        run("the first DOT, if none is FAR").laid(CORNERS + "dff;dgf;").then("edge 1 0 1").row("pose 0 0", 0, 0, 0, 2)
                .row("pose 1 0", 1, 1, 1, 1).row("pose 0 0", 0, 0, 0, 2);
        run("CAP at most, of each DOT").laid(CORNERS + "dff;dgf;dfh;").then("measure 0 1").row("pose 0 0", 2, 1, 1, 1)
                .row("pose 2 1", 3, 1, 0, 0);
    }

    private static void illMost() {
        run("ten DOTS of 99").laid("gbb;" + TEN_DOTS).row("pose 5 5", 990, 99, 0, 0).is("pose 4 5 0", NONE)
                .is("pose 5 4 0", NONE).row("pose 10 6", 990, 99, 0, 0).is("pose 10 7 0", NONE);
        run("ten DOTS on EDGES").laid(ALL_EDGES + TEN_DOTS).row("pose 5 5", 0, 0, 0, 10).then("edge 0 9 0")
                .row("pose 5 5", 1, 1, 9, 9);
    }

    private static void fitsCounts() {
        run("At how many PLACES it FITS: all").laid("gbb;dff;").is("fits", 121).then("turn 4 3 1").is("fits", 121);
        run("At how many PLACES it FITS: all").laid("g44;dff;").is("fits", 16);
        run("At how many PLACES it FITS: one").laid("g54;dff;djf;dfi;").is("fits", 1).then("turn 2 2 1").is("fits", 1)
                .then("turn 2 1 0").is("fits", 0).then("turn 3 0 0").is("fits", 0);
        run("At how many PLACES it FITS: none").laid("g54;dff;dkf;").is("fits", 0).then("drop 1").is("fits", 20);
        run("At how many PLACES it FITS, edges or none").laid("g44;r####;r####;dff;dgf;").is("fits", 12);
    }

    private static void boundRange() {
        run("n 1 to 11").laid(CORNERS + "dff;").are(BAD, "bound 0 0 0", "bound 0 0 12", "bound 0 0 -1", "bound 0 0 LOW",
                "bound 0 0 HIGH", "bound 0 0 257").is("bound 0 0 1", 0).is("bound 0 0 11", 0).is("bound 4 3 11", 0)
                .is("bound 1 1 11", 0).is("bound 1 1 1", 2);
        run("from a CELL on").laid(CORNERS + "dff;").are(BAD, "bound -1 0 1", "bound 5 0 1", "bound 0 -1 1",
                "bound 0 4 1", "bound -1 -1 11", "bound LOW 0 1", "bound HIGH 0 11", "bound 0 LOW 1", "bound 0 HIGH 11")
                .is("bound 4 0 1", 3).is("bound 0 3 1", 3).is("bound 4 3 1", 0);
        run("BAD; NONE").laid(CORNERS + "dkf;").are(NONE, "bound 0 0 11", "bound 4 3 1").are(BAD, "bound 0 0 0",
                "bound 0 0 12", "bound 5 0 1", "bound 0 4 1");
        run("n CELLS wide and high").laid("gbb;dff;m099;").then("edge 10 10 1").is("bound 0 0 11", 0)
                .is("bound 0 0 10", 2).is("bound 1 0 10", 1).is("bound 0 1 10", 1).is("bound 1 1 10", 0)
                .is("bound 9 9 1", 2).is("bound 9 9 2", 0).is("bound 0 0 1", 20);
    }

    /** Cells beside the grid would bring a dot onto a nearer cell of it. */
    private static void boundLeftOut() {
        run("what of it is not in the GRID is left out, to the right").laid(CORNERS + "def;").is("bound 4 0 2", 3)
                .is("bound 4 0 1", 3).is("bound 3 0 2", 2);
        run("what of it is not in the GRID is left out, below").laid(CORNERS + "dfe;").is("bound 4 3 2", 1)
                .is("bound 4 3 11", 1).is("bound 0 3 1", 2);
        run("CELLS of the GRID alone on which it would LIE").laid(CORNERS + "dgf;").is("bound 3 0 2", 2)
                .is("bound 3 0 1", 3).is("bound 3 3 2", 0).is("bound 4 3 1", NONE);
    }

    private static void boundNone() {
        run("none, if some DOT would LIE on none: to the right").laid(CORNERS + "djf;").is("bound 0 0 1", 3)
                .is("bound 1 0 1", NONE).is("bound 1 0 11", NONE).is("bound 0 3 1", 0);
        run("none, if some DOT would LIE on none: to the left").laid(CORNERS + "dbf;").is("bound 0 0 4", NONE)
                .is("bound 0 0 5", 0).is("bound 4 1 1", 1).is("bound 3 0 1", NONE);
        run("none, if some DOT would LIE on none: below").laid(CORNERS + "dfi;").is("bound 0 0 1", 3)
                .is("bound 0 1 3", NONE).is("bound 4 0 1", 0);
        run("none, if some DOT would LIE on none: above").laid(CORNERS + "dfc;").is("bound 0 0 3", NONE)
                .is("bound 0 0 4", 0).is("bound 4 3 1", 3);
        run("some DOT, though another LIES").laid(CORNERS + "dff;dgf;").is("bound 4 0 4", NONE).is("bound 3 0 4", 0)
                .is("bound 3 0 2", 4);
        run("the last DOT of ten").laid("gbb;" + TEN_DOTS).is("bound 5 5 1", 990).is("bound 5 4 1", NONE)
                .is("bound 10 6 1", 990).is("bound 10 7 1", NONE).is("bound 0 0 11", 990).is("bound 0 0 5", NONE)
                .is("bound 0 0 6", 990);
    }

    private static void boundIsIll() {
        run("a box of one PLACE").laid(CORNERS + "dff;dgf;dfh;").is("bound 0 0 1", 3).is("pose 0 0 0", 3)
                .is("bound 3 1 1", 6).is("pose 3 1 0", 6).is("bound 4 0 1", NONE).is("pose 4 0 0", NONE);
        run("by s, t, f").laid(CORNERS + "dff;dgf;dfh;").then("turn 2 1 0").is("bound 0 0 2", NONE).is("bound 0 0 3", 1)
                .then("turn 2 3 1").is("bound 0 0 1", 3).then("turn 4 0 0").is("bound 0 0 1", NONE);
        run("no POSE of the box need FIT so well").laid(CORNERS + "dff;dgf;dfh;").is("bound 3 1 2", 2)
                .is("pose 3 1 0", 6).are(NONE, "pose 4 1 0", "pose 3 2 0", "pose 4 2 0");
    }

    private static void tellsRange() {
        run("T (0 to 3)").laid(CORNERS + "dff;").are(BAD, "tells 0 0 -1", "tells 0 0 4", "tells 0 0 LOW",
                "tells 0 0 HIGH", "tells 0 0 256").is("tells 0 0 0", 1).is("tells 0 0 3", 1).is("tells 2 1 3", 1);
        run("a PLACE, which is a CELL").laid(CORNERS + "dff;").are(BAD, "tells -1 0 0", "tells 5 0 0", "tells 0 -1 0",
                "tells 0 4 0", "tells LOW 0 0", "tells HIGH 0 0", "tells 0 LOW 0", "tells 0 HIGH 0")
                .is("tells 4 3 0", 1).is("tells 4 0 0", 0).is("tells 0 3 3", 1);
        run("BAD; NONE: it does not FIT").laid(CORNERS + "dff;dgf;").are(NONE, "tells 4 0 0", "tells 4 3 3")
                .are(BAD, "tells 4 0 4", "tells 4 3 -1", "tells 5 3 0").is("tells 3 3 0", 1);
        run("How many EDGES: none there are").laid("g44;dff;").is("tells 0 0 3", 0).is("tells 3 3 0", 0);
    }

    /** One edge in the middle, one dot: the last cell from which it is told, and the first from which it is not. */
    private static void tellsNoMoreThanReach() {
        run("no more than T by CITY").laid("gbb;dff;m001;").then("edge 5 5 1").are(1, "tells 5 5 0", "tells 5 4 1",
                "tells 5 3 2", "tells 4 4 2", "tells 5 2 3", "tells 8 5 3", "tells 4 3 3", "tells 6 7 3").are(0,
                "tells 5 4 0", "tells 4 4 1", "tells 5 3 1", "tells 5 2 2", "tells 5 1 3", "tells 9 5 3",
                "tells 3 3 3");
        run("no more than T by CHESS").laid("gbb;dff;m101;").then("edge 5 5 1").are(1, "tells 5 5 0", "tells 4 4 1",
                "tells 3 7 2", "tells 2 2 3", "tells 8 8 3", "tells 2 5 3").are(0, "tells 4 4 0", "tells 3 5 1",
                "tells 2 5 2", "tells 1 5 3", "tells 9 9 3");
        run("no more than T by SLANT").laid("gbb;dff;m201;").then("edge 5 5 1").are(1, "tells 5 5 0", "tells 5 5 2",
                "tells 4 5 3", "tells 6 5 3", "tells 5 4 3", "tells 5 6 3").are(0, "tells 4 5 2", "tells 4 4 3",
                "tells 6 6 3", "tells 3 5 3");
    }

    private static void tellsOnce() {
        run("EDGES, not DOTS").laid("g54;r.#...;dff;dgf;dhf;m099;").is("tells 0 0 0", 1).is("tells 0 0 1", 1)
                .is("tells 0 0 3", 1).is("tells 2 0 0", 0).is("tells 2 0 1", 1);
        run("from a CELL on which a DOT LIES, not from the PLACE").laid("g54;r#...#;djf;m099;").is("tells 0 0 0", 1)
                .is("tells 0 0 3", 1).is("tells 0 1 0", 0).is("tells 0 1 1", 1).then("edge 4 0 0").is("tells 0 0 3", 0);
    }

    private static void tellsAll() {
        run("all EDGES around").laid(ALL_EDGES + "dff;m099;").is("tells 5 5 0", 1).is("tells 5 5 1", 5)
                .is("tells 5 5 3", 25).is("tells 0 0 3", 10).is("tells 10 10 3", 10).then("measure 1 99")
                .is("tells 5 5 3", 49).is("tells 0 0 3", 16).is("tells 10 10 1", 4).then("measure 2 99")
                .is("tells 5 5 3", 5).is("tells 5 5 2", 1).is("tells 0 0 3", 3);
    }
}
