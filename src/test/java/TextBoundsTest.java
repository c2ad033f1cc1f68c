/** Promises 1 to 5, sentence by sentence: the last letter, size and number that is allowed, the first that is not. */
public final class TextBoundsTest {
    private static final int BAD = Run.BAD, NO = Run.NO, FULL = Run.FULL, NONE = Run.NONE;
    private static final Due DUE = new Due("TextBoundsTest");
    private static final String AT_FIRST = "gaa;r..........;r..####....;r..#.......;r..#....#..;r.......#..;"
            + "r....####..;r..........;r.#........;r.#........;r.####.....;dff;dgf;dhf;dif;dfe;dfd;m120;";
    private static final String TEN_DOTS = "daa;dab;dac;dad;dae;daf;dag;dah;dai;daj;";
    /** 4 + 11 * 13 + 7 * 4 + 5 * 5 letters. */
    private static final String OF_200 = "gbb;" + "r#.........#;".repeat(11) + "daa;dkk;dak;dka;dff;dfg;dgf;"
            + "m001;m102;m203;m104;m299;";

    private TextBoundsTest() {
    }

    public static void main(String[] args) {
        newObject();
        letters();
        fullText();
        wiped();
        signs();
        gridOnce();
        rowsAtMost();
        rowLetters();
        dotsAtMost();
        dotLetters();
        dotsAlike();
        measures();
        caps();
        firstFault();
        unfinished();
        laidAtLeast();
        laidFull();
        laidAnew();
        laidAskedAgain();
        layRefused();
        DUE.end();
    }

    private static Run run(String sentence) {
        return new Run(DUE, sentence);
    }

    private static void fault(String sentence, String text, int place) {
        run(sentence + " | " + text).writes(text).is("fault", place);
    }

    /** A text that has no fault, and one that has it in the item at this place. */
    private static void good(String sentence, String... texts) {
        for (String text : texts) {
            fault(sentence, text, NONE);
        }
    }

    private static void bad(String sentence, String ahead, String... items) {
        for (String item : items) {
            fault(sentence, ahead + item, ahead.length());
            fault(sentence, ahead + item + "m101;", ahead.length());
        }
    }

    private static void newObject() {
        run("As told; THE TEXT is empty").row("count", 10, 10, 18, 6, 1, 20, 0, 0, 2, 0, 0).is("fault", NONE)
                .is("lay", NO).is("undo", NO).is("wipe", 0).is("ledger -1 0", 0).is("ledger 0 0", NONE);
        run("at first gaa;..").writes(AT_FIRST).is("fault", NONE).is("lay", 18)
                .row("count", 10, 10, 18, 6, 1, 20, 0, AT_FIRST.length(), 2, 0, 0);
    }

    private static void letters() {
        run("A letter (32 to 126)").are(BAD, "write 31", "write 127", "write 0", "write -1", "write -32",
                "write 128", "write 256", "write 288", "write 359", "write 65536", "write 65568", "write 65639",
                "write LOW", "write HIGH").is("write 32", 1).is("write 126", 2).is("write 31", BAD).is("count 7", 2);
        Run each = run("A letter (32 to 126, as in ASCII)");
        for (int letter = 32; letter <= 126; letter++) {
            each.is("write " + letter, letter - 31);
        }
        each.is("count 7", 95).is("fault", 0);
    }

    private static void fullText() {
        DUE.is("letters", 200, OF_200.length());
        run("200 at most: how long it is").writes(OF_200.substring(0, 199)).is("count 7", 199).is("fault", 195)
                .is("lay", NO).is("write 59", 200).is("fault", NONE).is("write 59", FULL).is("write 32", FULL)
                .is("count 7", 200).is("fault", NONE);
        run("200 at most, and the last letter counts").writes(OF_200).is("lay", 22)
                .row("count", 11, 11, 22, 7, 2, 99, 0, 200, 2, 0, 0).is("wipe", 200).is("write 103", 1);
        run("BAD; FULL").writes(OF_200).are(BAD, "write 31", "write 127", "write LOW", "write HIGH")
                .are(FULL, "write 33", "write 126");
        run("letters beyond 200 are not in THE TEXT").writes(OF_200.substring(0, 196)).then("write 32", "write 32",
                "write 32", "write 32", "write 100", "write 103").is("count 7", 200).is("fault", 195);
    }

    private static void wiped() {
        run("THE TEXT is empty: how long it was").is("wipe", 0).is("write 103", 1).is("wipe", 1).is("wipe", 0)
                .is("count 7", 0).is("fault", NONE).is("lay", NO);
        run("THE TEXT is empty, all else stays").laid("g54;r#....;dff;dgf;m207;").then("turn 4 3 1", "edge 4 3 1",
                "take 0 990").is("wipe", 24).row("count", 5, 4, 1, 2, 2, 7, 2, 0, 4, 3, 1).is("ledger -1 0", 1)
                .is("undo", 1).is("undo", 0).is("count 2", 1);
        run("what stood in THE TEXT is gone").writes("g44;dff;").then("wipe").writes("g55;").is("lay", NO)
                .writes("dgg;").is("lay", 0).is("count 0", 5).is("lies 0 0", 101);
    }

    private static void signs() {
        for (int sign = 32; sign <= 126; sign++) {
            char letter = (char) sign;
            boolean told = "456789ab".indexOf(letter) >= 0;
            fault("4 to 11 each, W", "g" + letter + "4;", told ? NONE : 0);
            fault("4 to 11 each, H", "g4" + letter + ";", told ? NONE : 0);
        }
        run("W 4, H 11").laid("g4b;dff;").is("count 0", 4).is("count 1", 11).is("fits", 44);
        run("W 11, H 4").laid("gb4;dff;").is("count 0", 11).is("count 1", 4).is("fits", 44);
        run("a sign is 0 to 9, a (10)").laid("g9a;dff;").is("count 0", 9).is("count 1", 10);
        bad("a sign each", "", "g4;", "g;", "g444;", "g044;", "g1010;", "g 44;");
    }

    private static void gridOnce() {
        bad("told just once", "g44;", "g44;", "g55;", "g;", "gcc;");
        bad("told just once", "g44;r....;dff;m101;", "g44;");
        for (String first : new String[] {"r....;", "dff;", "m101;", ";", " ", "x44;", "G44;", "h44;", "f44;"}) {
            bad("another first ITEM is the FAULT", "", first, first + "g44;dff;");
        }
        good("the first ITEM is this one", "g44;", "g44;r....;", "g44;dff;", "g44;m101;");
    }

    private static void rowsAtMost() {
        good("H at most", "g54;" + "r.....;".repeat(4), "g4b;" + "r.#..;".repeat(11),
                "gb4;" + "r#..........;".repeat(4));
        bad("H at most", "g54;" + "r.....;".repeat(4), "r.....;");
        bad("H at most", "g4b;" + "r.#..;".repeat(11), "r.#..;");
        bad("H at most", "gb4;" + "r#..........;".repeat(4), "r#..........;");
        bad("H at most, others between them", "g54;r.....;dff;r.....;m101;r.....;r.....;dgg;", "r.....;");
        run("the next row (0, 1, ..)").laid("g44;r#...;dff;r.#..;m101;r..#.;r...#;").is("count 2", 4)
                .are(1, "cell 0 0", "cell 1 1", "cell 2 2", "cell 3 3").are(0, "cell 3 0", "cell 0 3", "cell 1 0");
        run("rows not told have none").laid("g44;r####;dff;").row("count", 4, 4, 4, 1).are(1, "cell 0 0", "cell 3 0")
                .are(0, "cell 0 1", "cell 3 1", "cell 0 3", "cell 3 3");
    }

    private static void rowLetters() {
        good("for each CELL of it", "g44;r####;", "g44;r....;", "gb4;r###########;", "gb4;r...........;");
        bad("for each CELL of it", "g44;", "r;", "r.;", "r...;", "r.....;", "r###;", "r#####;");
        bad("for each CELL of it", "gb4;", "r..........;", "r............;", "r##########;", "r############;");
        bad("for each CELL of its own GRID, not of H", "g5b;", "r...........;");
        for (int sign = 32; sign <= 126; sign++) {
            char letter = (char) sign;
            boolean told = letter == '#' || letter == '.';
            fault("a # or a .", "g44;r" + letter + "...;", told ? NONE : 4);
            fault("a # or a .", "g44;r..." + letter + ";", told ? NONE : 4);
        }
    }

    private static void dotsAtMost() {
        good("10 at most", "g44;" + TEN_DOTS, "gbb;" + TEN_DOTS + "m101;", "g44;" + TEN_DOTS.substring(0, 36));
        bad("10 at most", "g44;" + TEN_DOTS, "dkk;", "daa;", "dll;");
        run("10 at most").laid("g44;" + TEN_DOTS).is("count 3", 10).is("lies 9 1", 104).is("lies 10 1", BAD);
        run("10 at most").writes("g44;" + TEN_DOTS + "dkk;").is("lay", NO);
    }

    private static void dotLetters() {
        for (int sign = 32; sign <= 126; sign++) {
            char letter = (char) sign;
            boolean told = letter >= 'a' && letter <= 'k';
            fault("X, a to k", "g44;d" + letter + "f;", told ? NONE : 4);
            fault("Y, a to k", "g44;df" + letter + ";", told ? NONE : 4);
        }
        bad("X and Y a letter each", "g44;", "df;", "d;", "dfff;", "d-1f;", "d00;");
        for (int offset = -5; offset <= 5; offset++) {
            char letter = (char) ('f' + offset);
            run("a to k: -5 to 5").laid("gbb;d" + letter + "f;df" + (letter == 'f' ? 'e' : letter) + ";")
                    .row("lies 0", 100 + offset, 100).row("lies 1", 100, 100 + (offset == 0 ? -1 : offset));
        }
    }

    private static void dotsAlike() {
        bad("no two are alike", "g44;dff;", "dff;");
        bad("no two are alike, the first and the tenth", "g44;" + TEN_DOTS.substring(0, 36), "daa;", "dai;");
        good("no two are alike: X or Y alone may be", "g44;dff;dfg;dgf;dgg;", "g44;dak;dka;daa;dkk;");
    }

    private static void measures() {
        for (int sign = 32; sign <= 126; sign++) {
            char letter = (char) sign;
            fault("MEASURE M (0 to 2)", "g44;m" + letter + "10;", letter >= '0' && letter <= '2' ? NONE : 4);
        }
        run("0, 99 without").laid("g44;dff;").row("count", 4, 4, 0, 1, 0, 99);
        run("0, 99 without, whatever was laid ahead").laid("g44;dff;m207;").then("wipe").laid("g44;dff;")
                .row("count", 4, 4, 0, 1, 0, 99);
        run("of several the last one counts").laid("g44;m101;dff;m299;m142;").row("count", 4, 4, 0, 1, 1, 42);
        run("of several the last one counts").laid("g44;m142;dff;m001;").row("count", 4, 4, 0, 1, 0, 1);
        bad("of several each must be so", "g44;m101;", "m100;", "m301;");
    }

    private static void caps() {
        for (int sign = 32; sign <= 126; sign++) {
            char letter = (char) sign;
            boolean figure = letter >= '0' && letter <= '9';
            fault("CAP, the first figure", "g44;m0" + letter + "1;", figure ? NONE : 4);
            fault("CAP, the other figure", "g44;m01" + letter + ";", figure ? NONE : 4);
            fault("CAP 01 to 99", "g44;m00" + letter + ";", figure && letter != '0' ? NONE : 4);
            fault("CAP 01 to 99", "g44;m0" + letter + "0;", figure && letter != '0' ? NONE : 4);
        }
        bad("two figures, 01 to 99", "g44;", "m000;", "m100;", "m200;", "m01;", "m0;", "m;", "m0001;", "m0100;");
        for (int cap : new int[] {1, 9, 10, 11, 90, 98, 99}) {
            run("CAP CC").laid("g44;dff;m2" + cap / 10 + cap % 10 + ";").is("count 5", cap).is("far 0 0", cap);
        }
    }

    private static void firstFault() {
        fault("of the first ITEM that is not so", "g44;dff;dff;dff;", 8);
        fault("of the first ITEM that is not so", "g44;r...;dll;", 4);
        fault("of the first ITEM that is not so", "gcc;gcc;", 0);
        fault("the first letter of it, not the wrong one", "g44;dff;r..#x;", 8);
        fault("the first letter of it, not the wrong one", "g44;dff;m30", 8);
        bad("an ITEM is one of four", "g44;", ";", " ", "#", "a;", "D;", "dff;;".substring(4), "rr;", "x44;", "f;");
        for (int sign = 32; sign <= 126; sign++) {
            char letter = (char) sign;
            fault("each a letter", "g44;" + letter, 4);
            fault("a ; behind them", "g44;dff" + letter, letter == ';' ? NONE : 4);
        }
        fault("the place (from 0 on), the last there can be", OF_200.substring(0, 195) + "    x", 195);
        fault("the place (from 0 on), the last there can be", OF_200.substring(0, 185) + "dgg;dgh;dgi;;;;", 197);
        String full = "g44;" + "m101;".repeat(39);
        fault("the last letter of 200 is an ITEM's first", full + "d", 199);
        good("200 at most", full, OF_200);
    }

    private static void unfinished() {
        good("an empty TEXT has no ITEM that is not so", "");
        String text = "g54;r#.#.#;dff;m101;";
        int[] ends = {4, 11, 15, 20};
        int item = 0;
        for (int length = 1; length <= text.length(); length++) {
            boolean whole = length == ends[item];
            int place = item == 0 ? 0 : ends[item - 1];
            fault("a ; behind them", text.substring(0, length), whole ? NONE : place);
            item += whole ? 1 : 0;
        }
    }

    private static void laidAtLeast() {
        run("with a GRID and a DOT at least").is("lay", NO).writes("g44;").is("fault", NONE).is("lay", NO)
                .writes("r####;").is("lay", NO).writes("m101;").is("lay", NO).writes("dff").is("lay", NO)
                .writes(";").is("lay", 4).row("count", 4, 4, 4, 1, 1, 1, 0, 19, 2, 0, 0);
        run("with a GRID and a DOT at least").writes("g44;dff;").is("lay", 0).row("count", 4, 4, 0, 1, 0, 99);
        run("a TEXT without FAULT").writes("dff;g44;").is("lay", NO).then("wipe").writes("g44;dff;;").is("lay", NO);
    }

    private static void laidFull() {
        run("how many EDGES: all").laid("gbb;" + "r###########;".repeat(11) + "dff;m101;").is("count 2", 121)
                .is("rings 0", 121).is("edge 10 10 1", NO).is("edge 10 10 0", 120);
        run("how many EDGES").writes("gbb;" + "r###########;".repeat(11) + "dff;").is("lay", 121);
        run("how many EDGES: none").writes("gbb;" + "r...........;".repeat(11) + "dff;").is("lay", 0);
    }

    private static void laidAnew() {
        run("the LEDGER is empty, s 2, t 0, f 0 are looked at (THE TEXT stays)").writes("g54;r#....;dff;")
                .then("take 0 0", "take 1 990", "turn 4 3 1", "edge 9 9 1").is("ledger -1 0", 2).is("lay", 1)
                .is("ledger -1 0", 0).is("ledger 0 0", NONE).row("count", 5, 4, 1, 1, 0, 99, 0, 15, 2, 0, 0)
                .is("fault", NONE).is("undo", NO).is("lay", 1);
        run("LAID again as THE TEXT tells").laid("g54;r#....;dff;dgf;").then("edge 0 0 0", "drop 0", "measure 2 1")
                .is("lay", 1).row("count", 5, 4, 1, 2, 0, 99, 0).is("cell 0 0", 1).is("undo", NO);
        run("another GRID").laid("gbb;" + "r###########;".repeat(11) + "dff;m101;").then("wipe").laid("g44;r#...;dkk;")
                .row("count", 4, 4, 1, 1, 0, 99).is("cell 4 4", BAD).then("wipe").laid("gbb;dff;").is("count 2", 0)
                .is("cell 4 4", 0).is("cell 10 10", 0).is("far 10 10", 99);
    }

    /** What was asked ahead of a lay is asked again behind it. */
    private static void laidAskedAgain() {
        run("LAID: FAR and BEST anew").writes("g44;r...#;dff;m142;").is("far 0 0", 2).is("nearest 3 3", 202)
                .is("best 0 0", 1).is("spread 1 0 1", 9).is("fits", 56).is("lay", 1).is("far 0 0", 3)
                .is("nearest 3 3", 3).is("best 0 0", 3).is("best 0 1", 0).is("spread 1 0 1", 0).is("fits", 16);
        run("LAID: FAR anew, of another size").laid("gbb;r#..........;dff;").is("far 10 10", 20).is("best 9 1", 0)
                .then("wipe").laid("g44;r...#;dff;m001;").is("far 0 0", 1).is("far 3 0", 0).is("far 10 10", BAD)
                .is("rings 1", 15).then("wipe").laid("gbb;dff;").is("far 10 10", 99).is("rings 99", 121);
    }

    private static void layRefused() {
        String[] texts = {"", "g44;", "g44;r####;m101;", "g44;dff;dff;", "g44;dff", "dff;", "gcc;dff;"};
        for (String text : texts) {
            run("NO, and nothing changes | " + text).then("take 0 0", "turn 3 1 1", "edge 0 0 1").writes(text)
                    .is("lay", NO).row("count", 10, 10, 13, 6, 1, 20, 2, text.length(), 3, 1, 1)
                    .is("ledger -1 0", 1).is("ledger 0 6", 6).is("undo", 1).is("undo", 0).is("count 2", 18);
        }
    }
}
