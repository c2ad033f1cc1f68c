/** Promises 11 to 14, sentence by sentence: the cells at the rim, the cap, grids without and full of edges. */
public final class FieldBoundsTest {
    private static final int BAD = Run.BAD, NONE = Run.NONE;
    private static final Due DUE = new Due("FieldBoundsTest");
    private static final String[] PER_CELL = {"cell", "far", "nearest"};

    private FieldBoundsTest() {
    }

    public static void main(String[] args) {
        cellsOfTheGrid();
        whetherAnEdge();
        measures();
        capAtMost();
        farWithoutEdges();
        farWithEdgesAlone();
        nearestWhateverCap();
        nearestOfSeveral();
        nearestByMeasure();
        nearestNone();
        ringsRange();
        ringsOfCap();
        DUE.end();
    }

    private static Run run(String sentence) {
        return new Run(DUE, sentence);
    }

    private static void cellsOfTheGrid() {
        int[][] sizes = {{4, 4}, {4, 11}, {11, 4}, {11, 11}, {5, 10}};
        for (int[] size : sizes) {
            int w = size[0];
            int h = size[1];
            String text = "g" + Integer.toString(w, 12) + Integer.toString(h, 12) + ";dff;m142;";
            for (String call : PER_CELL) {
                int good = call.equals("cell") ? 0 : call.equals("far") ? 42 : NONE;
                run("x 0 to W - 1, y 0 to H - 1 | " + text).laid(text)
                        .are(good, call + " 0 0", call + " " + (w - 1) + " 0", call + " 0 " + (h - 1),
                                call + " " + (w - 1) + " " + (h - 1))
                        .are(BAD, call + " -1 0", call + " " + w + " 0", call + " 0 -1", call + " 0 " + h,
                                call + " " + w + " " + h, call + " -1 -1", call + " LOW 0", call + " HIGH 0",
                                call + " 0 LOW", call + " 0 HIGH", call + " 65536 0", call + " 0 256");
            }
        }
    }

    private static void whetherAnEdge() {
        run("Whether a CELL is an EDGE: 1, 0").laid("g54;r#...#;r.....;r.....;r#...#;dff;").are(1, "cell 0 0",
                "cell 4 0", "cell 0 3", "cell 4 3").are(0, "cell 1 0", "cell 3 0", "cell 0 1", "cell 4 2", "cell 3 3");
        run("the last of the widest row").laid("gbb;r#.........#;dff;").are(1, "cell 0 0", "cell 10 0")
                .are(0, "cell 9 0", "cell 10 1").are(BAD, "cell 11 0", "cell 32 0", "cell 42 0");
    }

    /** The edge is at (x, y) = (3, 7), so all of dx and dy to both sides are met; no cap is so low. */
    private static void measures() {
        for (int m = 0; m <= 2; m++) {
            Run run = run("MEASURES of two CELLS: " + m).laid("gbb;dff;m" + m + "99;").then("edge 3 7 1");
            for (int cell = 0; cell < 121; cell++) {
                int dx = Math.abs(cell % 11 - 3);
                int dy = Math.abs(cell / 11 - 7);
                int greater = dx > dy ? dx : dy;
                int less = dx > dy ? dy : dx;
                int far = m == 0 ? dx + dy : m == 1 ? greater : 3 * greater + less;
                run.is("far " + cell % 11 + " " + cell / 11, far);
            }
        }
        run("the farthest there is").laid("gbb;r#..........;dff;m099;").is("far 10 10", 20).then("measure 1 99")
                .is("far 10 10", 10).is("far 10 0", 10).then("measure 2 99").is("far 10 10", 40).is("far 10 0", 30)
                .is("far 0 10", 30).is("far 10 9", 39).is("far 1 0", 3).is("far 1 1", 4).is("far 0 0", 0);
        run("the EDGE that is nearest so").laid("g54;r#....;r.....;r.....;r....#;dff;m099;").is("far 2 1", 3)
                .is("far 2 2", 3).is("far 3 2", 2).then("measure 1 99").is("far 2 1", 2).is("far 2 2", 2)
                .then("measure 2 99").is("far 2 1", 7).is("far 2 2", 7).is("far 3 2", 4);
    }

    private static void capAtMost() {
        String text = "gbb;r#..........;dff;m";
        int[][] farthest = {{20, 10, 10}, {10, 10, 0}, {40, 10, 10}, {3, 3, 0}, {3, 0, 3}, {3, 1, 0}};
        int[] measures = {0, 1, 2, 0, 1, 2};
        for (int i = 0; i < measures.length; i++) {
            int far = farthest[i][0];
            String call = "far " + farthest[i][1] + " " + farthest[i][2];
            run("CAP at most").laid(text + measures[i] + "99;").is(call, far)
                    .then("measure " + measures[i] + " " + (far + 1)).is(call, far)
                    .then("measure " + measures[i] + " " + far).is(call, far)
                    .then("measure " + measures[i] + " " + (far - 1)).is(call, far - 1)
                    .then("measure " + measures[i] + " 1").is(call, 1).is("far 0 0", 0);
        }
    }

    private static void farWithoutEdges() {
        run("CAP, if there is no EDGE").laid("g44;dff;").is("far 0 0", 99).is("far 3 3", 99).then("measure 0 1")
                .is("far 0 0", 1).then("edge 0 0 1").is("far 0 0", 0).is("far 3 3", 1).then("measure 0 99")
                .is("far 3 3", 6).then("edge 0 0 0").is("far 3 3", 99).is("far 0 0", 99);
    }

    private static void farWithEdgesAlone() {
        Run run = run("FAR of an EDGE").laid("g44;r####;r####;r####;r####;dff;m299;");
        for (int cell = 0; cell < 16; cell++) {
            run.is("far " + cell % 4 + " " + cell / 4, 0);
        }
        run.is("rings 0", 16).then("edge 3 3 0").is("far 3 3", 3).then("edge 3 2 0", "edge 2 3 0").is("far 3 3", 4);
    }

    private static void nearestWhateverCap() {
        run("whatever CAP is").laid("gbb;r#..........;dff;m001;").is("far 10 10", 1).is("nearest 10 10", 0)
                .then("edge 10 10 1").is("nearest 10 10", 1010).is("nearest 9 9", 1010).is("nearest 6 5", 1010)
                .is("nearest 5 5", 0).is("nearest 10 0", 0).then("measure 2 1").is("nearest 9 9", 1010)
                .is("nearest 1 1", 0).then("measure 1 1").is("nearest 4 5", 0).is("nearest 6 6", 1010);
    }

    private static void nearestOfSeveral() {
        run("of several that of the lowest y, then x").laid("g55;dff;").then("edge 2 3 1", "edge 3 2 1", "edge 1 2 1",
                "edge 2 1 1").is("nearest 2 2", 102).then("edge 2 1 0").is("nearest 2 2", 201).then("edge 1 2 0")
                .is("nearest 2 2", 203).then("edge 3 2 0").is("nearest 2 2", 302).then("edge 2 3 0")
                .is("nearest 2 2", NONE);
        run("the lowest y, though its x is higher").laid("g55;dff;m199;").then("edge 4 0 1", "edge 0 1 1")
                .is("nearest 2 2", 4).then("edge 3 0 1").is("nearest 2 2", 3).is("nearest 4 0", 4);
        run("the EDGE itself is nearest").laid("g44;r####;r####;r####;r####;dff;").is("nearest 0 0", 0)
                .is("nearest 3 0", 3).is("nearest 0 3", 300).is("nearest 3 3", 303);
    }

    /** From (0, 0) the edge (3, 0) is 3, 3, 9 apart, the edge (2, 2) 4, 2, 8. */
    private static void nearestByMeasure() {
        run("nearest by the MEASURE").laid("g44;r...#;r....;r..#.;dff;m099;").is("nearest 0 0", 3).is("far 0 0", 3)
                .then("measure 1 99").is("nearest 0 0", 202).is("far 0 0", 2).then("measure 2 99")
                .is("nearest 0 0", 202).is("far 0 0", 8).is("undo", 1).is("undo", 0).is("nearest 0 0", 3);
    }

    private static void nearestNone() {
        run("BAD; NONE: no EDGE").laid("g54;dff;").are(NONE, "nearest 0 0", "nearest 4 3").are(BAD, "nearest 5 0",
                "nearest 0 4", "nearest -1 3").then("edge 4 3 1").is("nearest 0 0", 304).is("nearest 5 3", BAD)
                .then("take 0 0").is("nearest 0 0", NONE);
    }

    private static void ringsRange() {
        run("How many CELLS are FAR by n (0 to 99)").laid("g54;dff;").are(BAD, "rings -1", "rings 100", "rings LOW",
                "rings HIGH", "rings 256").is("rings 99", 20).is("rings 98", 0).is("rings 0", 0).then("edge 0 0 1")
                .row("rings", 1, 2, 3, 4, 4, 3, 2, 1, 0).is("rings 99", 0);
        run("How many CELLS are FAR by 0: all").laid("gbb;" + "r###########;".repeat(11) + "dff;").is("rings 0", 121)
                .is("rings 1", 0).then("edge 5 5 0").is("rings 0", 120).is("rings 1", 1);
    }

    private static void ringsOfCap() {
        run("CAP at most").laid("gbb;r#..........;dff;m101;").is("rings 0", 1).is("rings 1", 120).is("rings 2", 0)
                .then("measure 1 9").row("rings", 1, 3, 5, 7, 9, 11, 13, 15, 17, 40, 0).then("measure 1 10")
                .is("rings 9", 19).is("rings 10", 21).is("rings 11", 0);
        run("SLANT").laid("gbb;r#..........;dff;m299;").is("rings 40", 1).is("rings 39", 2).is("rings 41", 0)
                .is("rings 1", 0).is("rings 3", 2).is("rings 4", 1);
    }
}
