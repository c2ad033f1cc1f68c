/** Promises 6 to 10, sentence by sentence: the last number that is allowed, the first that is not, full, undone. */
public final class ChangeBoundsTest {
    private static final int BAD = Run.BAD, NO = Run.NO, FULL = Run.FULL, NONE = Run.NONE;
    private static final Due DUE = new Due("ChangeBoundsTest");
    /** 5 columns and 4 rows, edges in two corners. */
    private static final String CORNERS = "g54;r#....;r.....;r.....;r....#;";

    private ChangeBoundsTest() {
    }

    public static void main(String[] args) {
        edgeOnCells();
        edgeIsSo();
        edgeEmptyAndFull();
        dotOffsets();
        dotsAlike();
        dotsFull();
        dropRange();
        dropLast();
        dropLowers();
        measureRange();
        measureIsSo();
        undoNone();
        undoSix();
        undoEachKind();
        undoOfNothing();
        undoAndLaid();
        undoTaken();
        undoIsNoChange();
        refusedIsNoChange();
        lastCall();
        DUE.end();
    }

    private static Run run(String sentence) {
        return new Run(DUE, sentence);
    }

    private static void edgeOnCells() {
        run("x 0 to W - 1, y 0 to H - 1").laid(CORNERS + "dff;").are(BAD, "edge -1 0 1", "edge 5 0 1", "edge 0 -1 1",
                "edge 0 4 1", "edge 4 4 1", "edge 5 3 1", "edge 32 0 1", "edge 0 32 1", "edge 33 0 0", "edge -31 0 1",
                "edge LOW 0 1", "edge HIGH 0 1", "edge 0 LOW 1", "edge 0 HIGH 1", "edge 65536 65536 0").is("count 6", 0)
                .is("edge 4 0 1", 3).is("edge 0 3 1", 4).is("cell 4 0", 1).is("cell 0 3", 1).is("edge 4 3 0", 3)
                .is("edge 0 0 0", 2).is("cell 4 3", 0).is("cell 0 0", 0).is("count 2", 2).is("count 6", 4);
        run("x 0 to W - 1 of the widest").laid("gb4;dff;").is("edge 10 3 1", 1).are(BAD, "edge 11 3 1", "edge 3 10 1",
                "edge 10 4 1").is("cell 10 3", 1);
        run("y 0 to H - 1 of the highest").laid("g4b;dff;").is("edge 3 10 1", 1).are(BAD, "edge 3 11 1", "edge 10 3 1",
                "edge 4 10 1").is("cell 3 10", 1);
    }

    private static void edgeIsSo() {
        run("an EDGE (is = 1), or not (0)").laid(CORNERS + "dff;").are(BAD, "edge 1 0 2", "edge 1 0 -1", "edge 0 0 2",
                "edge 0 0 -1", "edge 0 0 LOW", "edge 1 0 HIGH", "edge 1 0 256").is("count 2", 2);
        run("NO: it is so").laid(CORNERS + "dff;").are(NO, "edge 0 0 1", "edge 4 3 1", "edge 1 0 0", "edge 4 0 0")
                .is("edge 1 0 1", 3).is("edge 1 0 1", NO).is("edge 1 0 0", 2).is("edge 1 0 0", NO).is("count 6", 2);
        run("BAD ahead of NO").laid(CORNERS + "dff;").are(BAD, "edge -1 0 0", "edge 5 0 0", "edge 0 4 0", "edge 0 0 3");
    }

    private static void edgeEmptyAndFull() {
        Run run = run("how many EDGES").laid("g44;dff;");
        for (int cell = 0; cell < 16; cell++) {
            run.is("edge " + cell % 4 + " " + cell / 4 + " 1", cell + 1);
        }
        run.is("edge 0 0 1", NO).is("edge 3 3 1", NO).is("rings 0", 16).is("edge 4 3 1", BAD);
        for (int cell = 0; cell < 16; cell++) {
            run.is("edge " + cell % 4 + " " + cell / 4 + " 0", 15 - cell);
        }
        run.is("edge 0 0 0", NO).is("edge 3 3 0", NO).is("nearest 0 0", NONE).is("rings 99", 16);
    }

    private static void dotOffsets() {
        for (int offset = -8; offset <= 8; offset++) {
            boolean told = offset >= -5 && offset <= 5;
            run("its offset (-5 to 5 each), X").laid("g44;dfe;").is("dot " + offset + " 0", told ? 1 : BAD)
                    .is("count 3", told ? 2 : 1).is("lies 1 0", told ? 100 + offset : BAD);
            run("its offset (-5 to 5 each), Y").laid("g44;def;").is("dot 0 " + offset, told ? 1 : BAD)
                    .is("count 3", told ? 2 : 1).is("lies 1 1", told ? 100 + offset : BAD);
        }
        run("-5 to 5 each").laid("g44;dff;").are(BAD, "dot -6 -6", "dot 6 6", "dot -6 5", "dot 5 -6", "dot 6 -5",
                "dot LOW 0", "dot HIGH 0", "dot 0 LOW", "dot 0 HIGH", "dot 256 0", "dot 0 65536").is("dot -5 -5", 1)
                .is("dot 5 5", 2).is("dot -5 5", 3).is("dot 5 -5", 4).is("count 6", 4);
    }

    private static void dotsAlike() {
        run("NO: one is alike").laid("g44;dff;dgh;").are(NO, "dot 0 0", "dot 1 2").is("dot 2 1", 2).is("dot 2 1", NO)
                .is("dot 1 0", 3).is("dot 0 2", 4).is("dot -1 -2", 5).is("count 6", 4);
        run("NO: one is alike, as long as it is there").laid("g44;dff;dgh;").is("drop 0", 1).is("dot 1 2", NO)
                .is("dot 0 0", 1).is("dot 0 0", NO).is("undo", 1).is("dot 0 0", 1);
    }

    private static void dotsFull() {
        Run run = run("A DOT more: its number; FULL: 10").laid("g44;dff;");
        for (int number = 1; number < 10; number++) {
            run.is("dot 5 " + (number - 5), number).is("count 3", number + 1);
        }
        run.is("dot 5 5", FULL).is("dot -5 -5", FULL).is("count 3", 10).is("lies 9 1", 104).is("lies 10 0", BAD)
                .are(NO, "dot 0 0", "dot 5 -4", "dot 5 4").are(BAD, "dot 6 5", "dot 5 6", "dot 0 -6", "dot LOW HIGH")
                .is("count 6", 6).is("drop 4", 9).is("dot 5 5", 9).is("dot 4 4", FULL).is("undo", 5).is("undo", 4)
                .is("dot 4 4", FULL).is("count 3", 10);
    }

    private static void dropRange() {
        run("DOTS such as there are").laid("g44;dff;dgf;dfh;").are(BAD, "drop -1", "drop 3", "drop 4", "drop 9",
                "drop 10", "drop LOW", "drop HIGH", "drop 256").is("drop 2", 2).is("drop 2", BAD).is("drop 0", 1)
                .is("drop 1", BAD).is("lies 0 0", 101).is("lies 1 0", BAD).is("count 6", 2);
        run("DOTS such as there are, ten").laid("g44;daa;dab;dac;dad;dae;daf;dag;dah;dai;daj;").is("drop 10", BAD)
                .is("drop 9", 9).is("drop 9", BAD).is("drop 8", 8).is("lies 7 1", 102).is("lies 8 1", BAD);
    }

    private static void dropLast() {
        run("NO: it is the last one").laid("g44;dgh;").is("drop 0", NO).is("count 3", 1).is("lies 0 1", 102)
                .are(BAD, "drop 1", "drop -1").is("dot 0 0", 1).is("drop 0", 1).is("drop 0", NO).is("lies 0 1", 100)
                .is("count 6", 2);
    }

    private static void dropLowers() {
        String four = "g44;daa;dbb;dcc;ddd;";
        run("those behind are one number lower, the first").laid(four).is("drop 0", 3).is("lies 0 0", 96)
                .is("lies 1 0", 97).is("lies 2 1", 98).is("lies 3 0", BAD);
        run("those behind are one number lower, one between").laid(four).is("drop 1", 3).is("lies 0 0", 95)
                .is("lies 1 0", 97).is("lies 1 1", 97).is("lies 2 1", 98).is("lies 3 0", BAD);
        run("those behind are one number lower, none is").laid(four).is("drop 3", 3).is("lies 0 0", 95)
                .is("lies 1 0", 96).is("lies 2 0", 97).is("lies 3 0", BAD);
    }

    private static void measureRange() {
        run("MEASURE (0 to 2)").laid("g44;dff;m150;").are(BAD, "measure -1 50", "measure 3 50", "measure LOW 50",
                "measure HIGH 50", "measure 256 50").is("measure 0 50", 150).is("measure 2 50", 50)
                .is("measure 1 50", 250).is("count 4", 1);
        run("CAP (1 to 99)").laid("g44;dff;m150;").are(BAD, "measure 1 0", "measure 1 100", "measure 1 -1",
                "measure 1 LOW", "measure 1 HIGH", "measure 1 257").is("measure 1 1", 150).is("far 0 0", 1)
                .is("measure 1 99", 101).is("far 0 0", 99).is("count 5", 99).is("count 6", 2);
        run("100 times the MEASURE and CAP as they were").laid("g44;dff;").is("measure 2 1", 99).is("measure 2 99", 201)
                .is("measure 0 1", 299).is("measure 1 99", 1).is("measure 0 99", 199);
    }

    private static void measureIsSo() {
        run("NO: they are so").laid("g44;dff;m150;").is("measure 1 50", NO).is("measure 1 51", 150)
                .is("measure 1 51", NO).is("measure 0 51", 151).is("measure 0 51", NO).is("measure 1 50", 51)
                .is("count 6", 3);
        run("NO: they are so, at first").is("measure 1 20", NO).is("undo", NO).is("measure 0 20", 120);
        run("BAD ahead of NO").laid("g44;dff;m199;").are(BAD, "measure 1 100", "measure 3 99", "measure -1 99");
    }

    private static void undoNone() {
        run("UNDONE: NO").is("undo", NO).is("count 6", 0).is("edge 0 0 1", 19).is("undo", 0).is("undo", NO)
                .is("count 2", 18);
    }

    private static void undoSix() {
        for (int changes : new int[] {1, 5, 6, 7, 8, 12, 13, 16}) {
            Run run = run("the last 6 can be, of " + changes).laid("g44;dff;");
            for (int cell = 0; cell < changes; cell++) {
                run.is("edge " + cell % 4 + " " + cell / 4 + " 1", cell + 1).is("count 6", Math.min(cell + 1, 6));
            }
            for (int more = Math.min(changes, 6) - 1; more >= 0; more--) {
                run.is("undo", more).is("count 6", more).is("count 2", Math.max(changes - 6, 0) + more);
            }
            run.is("undo", NO).is("count 2", Math.max(changes - 6, 0));
        }
        run("the last 6 can be, others are lost for good").laid("g44;dff;").then("edge 0 0 1", "edge 1 0 1",
                "edge 2 0 1", "edge 3 0 1", "edge 0 1 1", "edge 1 1 1", "edge 2 1 1", "undo", "undo", "undo", "undo",
                "undo", "undo").is("undo", NO).are(1, "cell 0 0").are(0, "cell 1 0", "cell 2 1").is("edge 3 3 1", 2)
                .is("count 6", 1).is("undo", 0).is("undo", NO).is("count 2", 1);
    }

    private static void undoEachKind() {
        run("an EDGE more").laid(CORNERS + "dff;").then("far 1 0", "edge 1 0 1").is("far 1 0", 0).is("undo", 0)
                .is("cell 1 0", 0).is("far 1 0", 1).is("count 2", 2).is("best 0 0", 0);
        run("an EDGE fewer").laid(CORNERS + "dff;").then("edge 0 0 0").is("far 1 0", 6).is("best 0 0", 4)
                .is("undo", 0).is("cell 0 0", 1).is("far 1 0", 1).is("best 0 0", 0);
        run("a DOT more").laid(CORNERS + "dff;").then("dot 5 0").is("best -1 0", 0).is("undo", 0).is("count 3", 1)
                .is("lies 1 0", BAD).is("best -1 0", 10).is("fits", 20);
        run("a DOT fewer").laid(CORNERS + "dff;dgf;dfg;").then("drop 1").is("lies 1 1", 101).is("undo", 0)
                .is("count 3", 3).row("lies 0", 100, 100).row("lies 1", 101, 100).row("lies 2", 100, 101);
        run("the MEASURE or CAP told anew").laid(CORNERS + "dff;m005;").then("measure 2 99").is("far 1 1", 4)
                .is("undo", 0).is("count 4", 0).is("count 5", 5).is("far 1 1", 2).then("measure 0 1")
                .is("far 1 1", 1).is("undo", 0).is("far 1 1", 2);
        run("TAKEN").laid(CORNERS + "dff;").is("take 0 0", 1).is("cell 0 0", 0).is("far 1 0", 6).is("undo", 0)
                .is("cell 0 0", 1).is("far 1 0", 1).is("ledger -1 0", 0).is("ledger 0 0", NONE);
        run("UNDONE is the latest change").laid(CORNERS + "dff;dgf;m009;").then("edge 2 2 1", "measure 1 9", "dot 0 1",
                "drop 0", "take 1 990", "edge 1 3 1").is("undo", 5).is("cell 1 3", 0).is("undo", 4)
                .is("ledger -1 0", 0).is("undo", 3).is("count 3", 3).is("undo", 2).is("count 3", 2).is("undo", 1)
                .is("count 4", 0).is("undo", 0).is("cell 2 2", 0).is("undo", NO);
    }

    private static void undoOfNothing() {
        run("such by which nothing becomes another, too: a CAP beyond all").laid(CORNERS + "dff;m098;")
                .is("measure 0 99", 98).is("far 2 1", 3).is("count 6", 1).is("undo", 0).is("count 5", 98);
        run("such by which nothing becomes another, too: there and back").laid(CORNERS + "dff;").is("edge 1 0 1", 3)
                .is("edge 1 0 0", 2).is("count 6", 2).is("undo", 1).is("cell 1 0", 1).is("undo", 0).is("cell 1 0", 0);
        run("such by which nothing becomes another, too: a DOT there and back").laid(CORNERS + "dff;").is("dot 1 0", 1)
                .is("drop 1", 1).is("count 6", 2).is("undo", 1).is("count 3", 2).is("undo", 0).is("count 3", 1);
        run("such by which nothing becomes another, too: the measure of an empty grid").laid("g44;dff;")
                .is("measure 1 99", 99).is("far 0 0", 99).is("undo", 0).is("count 4", 0);
    }

    private static void undoAndLaid() {
        run("LAID none").writes("g44;r#...;dff;").then("edge 0 0 1", "take 0 990").is("count 6", 2).is("lay", 1)
                .is("count 6", 0).is("undo", NO).is("edge 1 0 1", 2).is("undo", 0).is("undo", NO).is("count 0", 4);
        run("LAID none, of six").writes("g44;r#...;dff;").then("edge 0 0 1", "edge 1 0 1", "edge 2 0 1", "edge 3 0 1",
                "edge 4 0 1", "edge 5 0 1", "edge 6 0 1").is("count 6", 6).is("lay", 1).is("undo", NO)
                .is("edge 1 1 1", 2).is("edge 2 2 1", 3).is("undo", 1).is("undo", 0).is("undo", NO).is("count 2", 1);
        run("a TEXT that is not LAID leaves what can be").writes("g44;").then("edge 0 0 1").is("lay", NO)
                .is("count 6", 1).is("undo", 0).is("count 2", 18);
    }

    private static void undoTaken() {
        run("what was TAKEN goes out of the LEDGER then").laid("g54;r###..;dff;").is("take 0 0", 1).is("take 0 0", 1)
                .is("edge 4 3 1", 2).is("ledger -1 0", 2).is("undo", 2).is("ledger -1 0", 2).is("undo", 1)
                .is("ledger -1 0", 1).is("ledger 0 0", 0).is("ledger 1 0", NONE).is("count 2", 2).is("undo", 0)
                .is("ledger -1 0", 0).is("count 2", 3).is("take 1 0", 2).is("ledger 0 6", 2).is("ledger 1 6", NONE);
        run("the last 6 can be, of 8 TAKEN").laid("g54;r#####;r###..;dff;").is("takes 0 0", 8).is("count 6", 6)
                .is("undo", 5).is("ledger -1 0", 7).is("count 2", 1).is("undo", 4).is("undo", 3).is("undo", 2)
                .is("undo", 1).is("undo", 0).is("undo", NO).is("ledger -1 0", 2).is("count 2", 6).row("ledger 0", 0, 0)
                .row("ledger 1", 1, 0).is("ledger 2 0", NONE);
    }

    private static void undoIsNoChange() {
        run("UNDONE again is the change ahead of it").laid("g44;dff;").then("edge 0 0 1", "edge 1 0 1").is("undo", 1)
                .is("undo", 0).is("undo", NO).is("count 2", 0);
        run("a change behind an UNDONE one").laid("g44;dff;").then("edge 0 0 1", "edge 1 0 1", "undo", "edge 2 0 1")
                .is("count 6", 2).is("undo", 1).are(0, "cell 1 0", "cell 2 0").is("cell 0 0", 1).is("undo", 0)
                .is("count 2", 0).is("undo", NO);
        run("s, t, f and THE TEXT are no change").laid("g44;dff;").then("edge 0 0 1", "turn 4 3 1", "write 103")
                .is("count 6", 1).is("undo", 0).is("count 7", 9).is("count 8", 4).is("count 9", 3).is("count 10", 1);
    }

    private static void lastCall() {
        Run run = run("at most 512 calls");
        for (int call = 1; call <= 510; call++) {
            run.then("edge 9 9 " + call % 2);
        }
        run.is("count 6", 6).is("undo", 5);
        Run asked = run("at most 512 calls");
        for (int call = 1; call <= 511; call++) {
            asked.then("measure " + call % 3 + " " + call % 99);
        }
        asked.is("best -1 0", 10);
    }

    private static void refusedIsNoChange() {
        run("nothing changes then").laid(CORNERS + "dff;").then("edge 1 0 1").are(NO, "edge 1 0 1", "edge 2 0 0",
                "dot 0 0", "drop 0", "measure 0 99", "edge 0 0 1")
                .are(BAD, "edge 5 0 1", "dot 6 0", "drop 1", "measure 3 1", "take 4 0", "takes 0 991", "turn 1 0 0")
                .is("take 0 990", 1).is("takes 0 0", 2).is("takes 0 0", 0).is("take 0 0", NO).is("count 6", 4)
                .is("undo", 3).is("undo", 2).is("undo", 1).is("undo", 0).is("count 2", 2);
    }
}
