/** Each promise with answers worked out by hand: ordinary inputs, the edges that the document names, wrong inputs. */
public final class PromisesTest {
    private static final int BAD = -1, NO = -2, FULL = -3, NONE = -4;
    private static final int LOW = Integer.MIN_VALUE, HIGH = Integer.MAX_VALUE;
    /** Edges in two corners: by CITY a cell (x, y) is far by the less of x + y and 7 - x - y. */
    private static final String CORNERS = "g54;r#....;r.....;r.....;r....#;";
    private static final Due DUE = new Due("PromisesTest");

    private PromisesTest() {
    }

    public static void main(String[] args) {
        newObject();
        write();
        wipe();
        faultOfGrid();
        faultOfRow();
        faultOfDot();
        faultOfMeasure();
        lay();
        layThatFails();
        edge();
        dot();
        drop();
        measure();
        undo();
        undoOfEachKind();
        cell();
        far();
        nearest();
        rings();
        turn();
        lies();
        pose();
        fits();
        bound();
        tells();
        best();
        bestFew();
        spread();
        take();
        takeTellsNone();
        takes();
        takesAllEight();
        ledger();
        count();
        DUE.end();
    }

    private static void due(String call, int got, int want) {
        DUE.is(call, want, got);
    }

    private static void type(EdgeStencil e, String text) {
        e.wipe();
        for (int i = 0; i < text.length(); i++) {
            e.write(text.charAt(i));
        }
    }

    private static EdgeStencil laid(String text) {
        EdgeStencil e = new EdgeStencil();
        type(e, text);
        DUE.holds("lay of " + text, e.lay() >= 0);
        return e;
    }

    private static int faultOf(String text) {
        EdgeStencil e = new EdgeStencil();
        type(e, text);
        return e.fault();
    }

    private static void fault(String text, int place) {
        due("fault of " + text, faultOf(text), place);
    }

    private static void counts(String when, EdgeStencil e, int... want) {
        for (int what = 0; what < want.length; what++) {
            due(when + " count(" + what + ")", e.count(what), want[what]);
        }
    }

    private static void ask(String when, EdgeStencil e, int i, int... want) {
        for (int what = 0; what < want.length; what++) {
            due(when + " best(" + i + ", " + what + ")", e.best(i, what), want[what]);
        }
    }

    private static void newObject() {
        EdgeStencil e = new EdgeStencil();
        counts("new", e, 10, 10, 18, 6, 1, 20, 0, 0, 2, 0, 0);
        due("new fault", e.fault(), NONE);
        due("new lay", e.lay(), NO);
        due("new undo", e.undo(), NO);
        due("new wipe", e.wipe(), 0);
        due("new ledger(-1, 0)", e.ledger(-1, 0), 0);
        String[] rows = {"..........", "..####....", "..#.......", "..#....#..", ".......#..", "....####..",
            "..........", ".#........", ".#........", ".####....."};
        for (int y = 0; y < 10; y++) {
            for (int x = 0; x < 10; x++) {
                due("new cell(" + x + ", " + y + ")", e.cell(x, y), rows[y].charAt(x) == '#' ? 1 : 0);
            }
        }
        int[][] dots = {{0, 0}, {1, 0}, {2, 0}, {3, 0}, {0, -1}, {0, -2}};
        for (int d = 0; d < 6; d++) {
            due("new lies(" + d + ", 0)", e.lies(d, 0), 100 + dots[d][0]);
            due("new lies(" + d + ", 1)", e.lies(d, 1), 100 + dots[d][1]);
        }
    }

    private static void write() {
        EdgeStencil e = new EdgeStencil();
        for (int bad : new int[] {31, 127, 0, -1, 65536 + 'g', LOW, HIGH}) {
            due("write(" + bad + ")", e.write(bad), BAD);
        }
        due("count(7)", e.count(7), 0);
        due("write(32)", e.write(32), 1);
        due("write(126)", e.write(126), 2);
        for (int i = 3; i <= 200; i++) {
            due("write of letter " + i, e.write('.'), i);
        }
        due("write beyond", e.write('.'), FULL);
        due("write of a bad one beyond", e.write(31), BAD);
        due("count(7)", e.count(7), 200);
        due("fault", e.fault(), 0);
    }

    private static void wipe() {
        EdgeStencil e = new EdgeStencil();
        type(e, "g44;dff;");
        due("lay", e.lay(), 0);
        due("wipe", e.wipe(), 8);
        due("wipe again", e.wipe(), 0);
        due("count(7)", e.count(7), 0);
        due("W stays", e.count(0), 4);
        due("fault", e.fault(), NONE);
        due("write", e.write('r'), 1);
        due("fault", e.fault(), 0);
    }

    private static void faultOfGrid() {
        fault("", NONE);
        fault("g44;", NONE);
        fault("gbb;", NONE);
        fault("g4a;", NONE);
        for (String bad : new String[] {"g", "g4", "g44", "g34;", "g43;", "gc4;", "g4c;", "gA4;", "g4:;", "g4/;",
            "g444;", "g44:", "G44;", " g44;", ";", "dff;g44;", "r....;", "m099;", "g04;", "g`4;", "g04;g44;"}) {
            fault(bad, 0);
        }
        fault("g44;g44;", 4);
        fault("g44;dff;g55;", 8);
        fault("g44;;", 4);
        fault("g44; ", 4);
        fault("g44;x;", 4);
    }

    private static void faultOfRow() {
        fault("g54;r#.#.#;r.....;r#####;r.....;", NONE);
        fault("g54;r.....;r.....;r.....;r.....;r.....;", 32);
        fault("g54;r....;", 4);
        fault("g54;r......;", 4);
        fault("g54;r.....", 4);
        fault("g54;r..-..;", 4);
        fault("g54;r.....;r..x..;g54;", 11);
        fault("g54;r;", 4);
        fault("g54;dff;r.....;m101;r.....;", NONE);
        fault("gbb;r...........;r##########;", 17);
    }

    private static void faultOfDot() {
        fault("g44;daa;dkk;dak;dka;", NONE);
        fault("g44;dff;dff;", 8);
        fault("g44;dff;dfg;dgf;dff;", 16);
        for (String bad : new String[] {"dlf;", "dfl;", "d`f;", "df`;", "dFf;", "df;", "dff", "dfff;", "d;", "d"}) {
            fault("g44;" + bad, 4);
        }
        fault("g44;daa;dab;dac;dad;dae;daf;dag;dah;dai;daj;", NONE);
        fault("g44;daa;dab;dac;dad;dae;daf;dag;dah;dai;daj;dak;", 44);
    }

    private static void faultOfMeasure() {
        fault("g44;m001;m199;m210;m009;m199;", NONE);
        for (String bad : new String[] {"m000;", "m100;", "m301;", "m/01;", "m0a1;", "m01a;", "m0/1;", "m01:;", "m0:1;",
            "m01;", "m0011;", "m011", "m;", "m"}) {
            fault("g44;" + bad, 4);
        }
    }

    private static void lay() {
        EdgeStencil e = new EdgeStencil();
        e.turn(4, 3, 1);
        e.take(1, 990);
        e.edge(0, 0, 1);
        type(e, "g5b;dak;r##..#;m105;dff;r.#...;m207;");
        due("lay", e.lay(), 4);
        counts("laid", e, 5, 11, 4, 2, 2, 7, 0, 36, 2, 0, 0);
        due("ledger is empty", e.ledger(-1, 0), 0);
        due("laid can not be undone", e.undo(), NO);
        due("cell(4, 0)", e.cell(4, 0), 1);
        due("cell(1, 1)", e.cell(1, 1), 1);
        due("cell(2, 0)", e.cell(2, 0), 0);
        due("cell(4, 10)", e.cell(4, 10), 0);
        due("first dot", e.lies(0, 0), 95);
        due("first dot", e.lies(0, 1), 105);
        due("lay again", e.lay(), 4);
        type(e, "g44;dff;");
        due("lay without rows", e.lay(), 0);
        counts("laid", e, 4, 4, 0, 1, 0, 99, 0, 8, 2, 0, 0);
        due("far without edges", e.far(0, 0), 99);
    }

    private static void layThatFails() {
        EdgeStencil e = new EdgeStencil();
        e.turn(3, 1, 1);
        e.take(0, 0);
        for (String bad : new String[] {"", "g44;", "g44;r####;m101;", "g44;dff;dff;", "g44;dff", "dff;"}) {
            type(e, bad);
            due("lay of " + bad, e.lay(), NO);
            counts("not laid", e, 10, 10, 12, 6, 1, 20, 1, bad.length(), 3, 1, 1);
            due("the ledger stays", e.ledger(-1, 0), 1);
        }
        due("undo", e.undo(), 0);
        due("count(2)", e.count(2), 18);
    }

    private static void edge() {
        EdgeStencil e = laid(CORNERS + "dff;");
        for (int[] bad : new int[][] {{5, 0, 1}, {0, 4, 1}, {-1, 0, 1}, {0, -1, 1}, {1, 0, 2}, {1, 0, -1},
            {LOW, LOW, LOW}, {HIGH, HIGH, HIGH}, {0, 0, 2}}) {
            due("edge of a bad number", e.edge(bad[0], bad[1], bad[2]), BAD);
        }
        due("edge(0, 0, 1)", e.edge(0, 0, 1), NO);
        due("edge(1, 0, 0)", e.edge(1, 0, 0), NO);
        due("nothing changed", e.count(6), 0);
        due("edge(4, 0, 1)", e.edge(4, 0, 1), 3);
        due("cell(4, 0)", e.cell(4, 0), 1);
        due("far(3, 0)", e.far(3, 0), 1);
        due("edge(0, 0, 0)", e.edge(0, 0, 0), 2);
        due("cell(0, 0)", e.cell(0, 0), 0);
        due("far(0, 0)", e.far(0, 0), 4);
        due("count(6)", e.count(6), 2);
    }

    private static void dot() {
        EdgeStencil e = laid("g44;dff;");
        for (int[] bad : new int[][] {{6, 0}, {-6, 0}, {0, 6}, {0, -6}, {LOW, 0}, {0, HIGH}}) {
            due("dot of a bad number", e.dot(bad[0], bad[1]), BAD);
        }
        due("dot(0, 0)", e.dot(0, 0), NO);
        due("nothing changed", e.count(6), 0);
        for (int n = 1; n < 10; n++) {
            due("dot number " + n, e.dot(n - 5, n % 2 == 0 ? 5 : -5), n);
        }
        due("an alike one of eleven", e.dot(0, 0), NO);
        due("a bad one of eleven", e.dot(0, 6), BAD);
        due("one of eleven", e.dot(5, 5), FULL);
        due("count(3)", e.count(3), 10);
        due("lies(2, 0)", e.lies(2, 0), 97);
        due("lies(2, 1)", e.lies(2, 1), 105);
    }

    private static void drop() {
        EdgeStencil e = laid("g44;dff;dgf;dfh;");
        for (int bad : new int[] {-1, 3, LOW, HIGH}) {
            due("drop(" + bad + ")", e.drop(bad), BAD);
        }
        due("nothing changed", e.count(6), 0);
        due("drop(1)", e.drop(1), 2);
        due("those behind are one lower", e.lies(1, 1), 102);
        due("drop(0)", e.drop(0), 1);
        due("lies(0, 1)", e.lies(0, 1), 102);
        due("drop of none", e.drop(1), BAD);
        due("drop of the last", e.drop(0), NO);
        due("count(6)", e.count(6), 2);
        due("dot as dropped", e.dot(0, 0), 1);
    }

    private static void measure() {
        EdgeStencil e = laid(CORNERS + "dff;m010;");
        for (int[] bad : new int[][] {{3, 10}, {-1, 10}, {0, 0}, {0, 100}, {LOW, HIGH}, {1, LOW}}) {
            due("measure of a bad number", e.measure(bad[0], bad[1]), BAD);
        }
        due("measure(0, 10)", e.measure(0, 10), NO);
        due("nothing changed", e.count(6), 0);
        due("measure(1, 10)", e.measure(1, 10), 10);
        due("measure(1, 99)", e.measure(1, 99), 110);
        due("measure(2, 99)", e.measure(2, 99), 199);
        due("measure(2, 1)", e.measure(2, 1), 299);
        due("count(4)", e.count(4), 2);
        due("count(5)", e.count(5), 1);
        due("count(6)", e.count(6), 4);
    }

    private static void undo() {
        EdgeStencil e = laid("g44;dff;");
        due("undo of none", e.undo(), NO);
        for (int x = 0; x < 8; x++) {
            due("edge more", e.edge(x % 4, x / 4, 1), x + 1);
            due("count(6)", e.count(6), Math.min(x + 1, 6));
        }
        for (int more = 5; more >= 0; more--) {
            due("undo", e.undo(), more);
            due("count(2)", e.count(2), 2 + more);
        }
        due("a seventh undo", e.undo(), NO);
        due("cell(1, 0)", e.cell(1, 0), 1);
        due("cell(2, 0)", e.cell(2, 0), 0);
        due("edge(2, 0, 1)", e.edge(2, 0, 1), 3);
        due("undo of it", e.undo(), 0);
        due("edges", e.count(2), 2);
    }

    private static void undoOfEachKind() {
        EdgeStencil e = laid(CORNERS + "dff;dgf;dfh;m010;");
        e.turn(3, 2, 1);
        e.edge(0, 0, 0);
        e.drop(0);
        e.dot(-5, 5);
        e.measure(2, 98);
        e.measure(2, 99);
        due("take", e.take(3, 990), NO);
        due("undo of a cap by which nothing becomes another", e.undo(), 4);
        due("cap", e.count(5), 98);
        due("undo of the measure", e.undo(), 3);
        counts("undone", e, 5, 4, 1, 3, 0, 10, 3);
        due("far", e.far(0, 0), 7);
        due("undo of the dot", e.undo(), 2);
        due("dots", e.count(3), 2);
        due("undo of the drop", e.undo(), 1);
        due("its number is as it was", e.lies(0, 0), 100);
        due("the next one's too", e.lies(2, 1), 97);
        due("undo of the edge", e.undo(), 0);
        due("cell(0, 0)", e.cell(0, 0), 1);
        due("far", e.far(0, 0), 0);
        due("what is looked at stays", 100 * e.count(8) + 10 * e.count(9) + e.count(10), 321);
    }

    private static void cell() {
        EdgeStencil e = laid(CORNERS + "dff;");
        due("cell(0, 0)", e.cell(0, 0), 1);
        due("cell(4, 3)", e.cell(4, 3), 1);
        due("cell(3, 3)", e.cell(3, 3), 0);
        for (int[] bad : new int[][] {{5, 0}, {0, 4}, {-1, 0}, {0, -1}, {LOW, 0}, {0, HIGH}, {HIGH, LOW}}) {
            due("cell of none", e.cell(bad[0], bad[1]), BAD);
            due("far of none", e.far(bad[0], bad[1]), BAD);
            due("nearest of none", e.nearest(bad[0], bad[1]), BAD);
        }
    }

    private static void far() {
        EdgeStencil e = laid(CORNERS + "dff;m010;");
        for (int y = 0; y < 4; y++) {
            for (int x = 0; x < 5; x++) {
                due("CITY far(" + x + ", " + y + ")", e.far(x, y), Math.min(x + y, 7 - x - y));
            }
        }
        e.measure(1, 10);
        due("CHESS far(2, 1)", e.far(2, 1), 2);
        due("CHESS far(1, 3)", e.far(1, 3), 3);
        due("CHESS far(3, 2)", e.far(3, 2), 1);
        e.measure(2, 10);
        due("SLANT far(2, 1)", e.far(2, 1), 7);
        due("SLANT far(2, 2)", e.far(2, 2), 7);
        due("SLANT far(1, 1)", e.far(1, 1), 4);
        due("SLANT far(0, 3)", e.far(0, 3), 9);
        e.measure(2, 7);
        due("SLANT far(0, 3) of cap 7", e.far(0, 3), 7);
        due("SLANT far(1, 1) of cap 7", e.far(1, 1), 4);
        e.edge(0, 0, 0);
        e.edge(4, 3, 0);
        due("far without edges", e.far(4, 3), 7);
        EdgeStencil wide = laid("gbb;r#..........;dff;m299;");
        due("SLANT far(10, 10)", wide.far(10, 10), 40);
        due("SLANT far(10, 9)", wide.far(10, 9), 39);
        wide.measure(0, 99);
        due("CITY far(10, 10)", wide.far(10, 10), 20);
    }

    private static void nearest() {
        EdgeStencil e = laid(CORNERS + "dff;m001;");
        due("CITY nearest(2, 1), whatever the cap", e.nearest(2, 1), 0);
        due("CITY nearest(2, 2)", e.nearest(2, 2), 304);
        due("nearest of an edge", e.nearest(4, 3), 304);
        e.measure(1, 1);
        due("CHESS nearest(2, 2), the lowest y of two", e.nearest(2, 2), 0);
        e.measure(2, 1);
        due("SLANT nearest(2, 2)", e.nearest(2, 2), 304);
        e.edge(2, 3, 1);
        e.edge(1, 2, 1);
        e.edge(3, 2, 1);
        due("the lowest y, then x, of three", e.nearest(2, 2), 201);
        EdgeStencil none = laid("g44;dff;");
        due("nearest without edges", none.nearest(0, 0), NONE);
    }

    private static void rings() {
        EdgeStencil e = laid(CORNERS + "dff;m010;");
        int[] cells = {2, 4, 6, 8, 0};
        for (int n = 0; n < cells.length; n++) {
            due("rings(" + n + ")", e.rings(n), cells[n]);
        }
        e.measure(0, 2);
        due("rings of the cap", e.rings(2), 14);
        due("rings beyond the cap", e.rings(3), 0);
        e.edge(0, 0, 0);
        e.edge(4, 3, 0);
        e.measure(0, 99);
        due("rings(99)", e.rings(99), 20);
        for (int bad : new int[] {-1, 100, LOW, HIGH}) {
            due("rings(" + bad + ")", e.rings(bad), BAD);
        }
    }

    private static void turn() {
        EdgeStencil e = new EdgeStencil();
        for (int s = 2; s <= 4; s++) {
            for (int t = 0; t <= 3; t++) {
                for (int f = 0; f <= 1; f++) {
                    due("turn", e.turn(s, t, f), 0);
                    due("s, t, f", 100 * e.count(8) + 10 * e.count(9) + e.count(10), 100 * s + 10 * t + f);
                }
            }
        }
        for (int[] bad : new int[][] {{1, 0, 0}, {5, 0, 0}, {2, -1, 0}, {2, 4, 0}, {2, 0, -1}, {2, 0, 2},
            {LOW, LOW, LOW}, {HIGH, HIGH, HIGH}}) {
            due("turn of a bad number", e.turn(bad[0], bad[1], bad[2]), BAD);
        }
        due("s, t, f stay", 100 * e.count(8) + 10 * e.count(9) + e.count(10), 431);
        due("a turn is no change", e.count(6), 0);
    }

    private static void lies() {
        EdgeStencil e = laid("gbb;dgh;daf;");
        // the offset (1, 2) turned by each number of quarters, then flipped ahead of that
        int[][] turned = {{1, 2}, {-2, 1}, {-1, -2}, {2, -1}, {-1, 2}, {-2, -1}, {1, -2}, {2, 1}};
        int[] halfMore = {-3, -1, 0, 2, 3};
        for (int t = 0; t < 8; t++) {
            for (int axis = 0; axis < 2; axis++) {
                int offset = turned[t][axis];
                e.turn(2, t % 4, t / 4);
                due("scale 2 lies", e.lies(0, axis), 100 + offset);
                e.turn(3, t % 4, t / 4);
                due("scale 3 lies", e.lies(0, axis), 100 + halfMore[offset + 2]);
                e.turn(4, t % 4, t / 4);
                due("scale 4 lies", e.lies(0, axis), 100 + 2 * offset);
            }
        }
        e.turn(3, 0, 0);
        due("-5 of scale 3", e.lies(1, 0), 93);
        e.turn(3, 0, 1);
        due("5 of scale 3", e.lies(1, 0), 108);
        e.turn(4, 3, 0);
        due("-5 of scale 4", e.lies(1, 1), 110);
        for (int[] bad : new int[][] {{2, 0}, {-1, 0}, {0, 2}, {0, -1}, {LOW, 0}, {HIGH, 1}, {0, LOW}}) {
            due("lies of a bad number", e.lies(bad[0], bad[1]), BAD);
        }
    }

    private static void poseIs(EdgeStencil e, int x, int y, int... want) {
        for (int what = 0; what < 4; what++) {
            due("pose(" + x + ", " + y + ", " + what + ")", e.pose(x, y, what), want[what]);
        }
    }

    private static void pose() {
        EdgeStencil e = laid(CORNERS + "dff;dgf;dfh;m010;");
        poseIs(e, 0, 0, 3, 2, 2, 1);
        poseIs(e, 3, 1, 6, 3, 0, 0);
        poseIs(e, 2, 1, 8, 3, 0, 0);
        poseIs(e, 4, 0, NONE, NONE, NONE, NONE);
        poseIs(e, 0, 2, NONE, NONE, NONE, NONE);
        for (int[] bad : new int[][] {{5, 0, 0}, {0, 4, 0}, {-1, 0, 0}, {0, -1, 0}, {0, 0, 4}, {0, 0, -1},
            {4, 0, 4}, {LOW, LOW, LOW}, {HIGH, HIGH, HIGH}}) {
            due("pose of a bad number", e.pose(bad[0], bad[1], bad[2]), BAD);
        }
        e.edge(1, 0, 1);
        e.edge(0, 2, 1);
        poseIs(e, 0, 0, 0, 0, 0, 3);
        poseIs(e, 2, 0, 5, 2, 1, 0);
        poseIs(e, 0, 0, 0, 0, 0, 3);
        EdgeStencil ties = laid(CORNERS + "dff;dfg;dgf;m010;");
        poseIs(ties, 0, 0, 2, 1, 1, 1);
        EdgeStencil aside = laid("g44;r#...;r....;r....;r...#;dif;m010;");
        poseIs(aside, 0, 3, 0, 0, 0, 1);
        poseIs(aside, 1, 3, NONE, NONE, NONE, NONE);
    }

    private static void fits() {
        EdgeStencil e = laid(CORNERS + "dff;dgf;dfh;m010;");
        due("fits", e.fits(), 8);
        e.turn(2, 1, 0);
        due("fits turned", e.fits(), 9);
        e.turn(3, 1, 0);
        due("fits turned, larger", e.fits(), 4);
        e.turn(4, 1, 0);
        due("fits turned, largest", e.fits(), 2);
        EdgeStencil aside = laid("g54;dif;");
        due("fits of a shape beside its place", aside.fits(), 8);
        aside.dot(-5, 0);
        due("fits of a shape too wide", aside.fits(), 0);
        EdgeStencil dot = laid("gbb;dff;");
        due("fits of one dot", dot.fits(), 121);
    }

    private static void bound() {
        EdgeStencil e = laid(CORNERS + "dff;dgf;dfh;m010;");
        due("bound(0, 0, 1)", e.bound(0, 0, 1), 3);
        due("bound(3, 1, 1)", e.bound(3, 1, 1), 6);
        due("bound(0, 0, 2)", e.bound(0, 0, 2), 3);
        due("bound(2, 0, 3)", e.bound(2, 0, 3), 2);
        due("bound(0, 0, 11)", e.bound(0, 0, 11), 0);
        due("bound(4, 0, 1)", e.bound(4, 0, 1), NONE);
        due("bound(0, 3, 1)", e.bound(0, 3, 1), NONE);
        due("bound(4, 3, 11)", e.bound(4, 3, 11), NONE);
        due("less than any place in it has", e.bound(3, 1, 2), 2);
        for (int[] bad : new int[][] {{5, 0, 1}, {0, 4, 1}, {-1, 0, 1}, {0, -1, 1}, {0, 0, 0}, {0, 0, 12}, {4, 0, 0},
            {LOW, LOW, LOW}, {HIGH, HIGH, HIGH}}) {
            due("bound of a bad number", e.bound(bad[0], bad[1], bad[2]), BAD);
        }
        e.turn(2, 1, 0);
        due("bound(0, 0, 2) turned", e.bound(0, 0, 2), NONE);
        due("bound(0, 0, 3) turned", e.bound(0, 0, 3), 1);
    }

    private static void tells() {
        EdgeStencil e = laid(CORNERS + "dff;dgf;dfh;m010;");
        due("tells(0, 0, 0)", e.tells(0, 0, 0), 1);
        due("tells(0, 0, 3)", e.tells(0, 0, 3), 1);
        due("tells(3, 1, 0)", e.tells(3, 1, 0), 0);
        due("tells(3, 1, 1)", e.tells(3, 1, 1), 1);
        due("tells(2, 1, 1)", e.tells(2, 1, 1), 0);
        due("tells(2, 1, 3)", e.tells(2, 1, 3), 2);
        due("tells of none that fits", e.tells(4, 0, 3), NONE);
        e.measure(1, 1);
        due("CHESS tells(2, 1, 1)", e.tells(2, 1, 1), 0);
        due("CHESS tells(2, 1, 2), whatever the cap", e.tells(2, 1, 2), 2);
        e.measure(2, 1);
        due("SLANT tells(3, 1, 2)", e.tells(3, 1, 2), 0);
        due("SLANT tells(3, 1, 3)", e.tells(3, 1, 3), 1);
        for (int[] bad : new int[][] {{5, 0, 1}, {0, 4, 1}, {-1, 0, 1}, {0, -1, 1}, {0, 0, -1}, {0, 0, 4}, {4, 0, 4},
            {LOW, LOW, LOW}, {HIGH, HIGH, HIGH}}) {
            due("tells of a bad number", e.tells(bad[0], bad[1], bad[2]), BAD);
        }
        due("tells changes nothing", e.count(2), 2);
    }

    private static void best() {
        EdgeStencil e = laid(CORNERS + "dff;dgf;m010;");
        int[][] poses = {{0, 0, 2, 0, 0}, {3, 3, 2, 0, 0}, {1, 0, 2, 0, 1}, {4, 3, 2, 0, 1}, {0, 0, 2, 1, 0},
            {4, 2, 2, 1, 0}, {0, 1, 2, 1, 1}, {4, 3, 2, 1, 1}, {1, 0, 2, 2, 0}, {4, 3, 2, 2, 0}};
        due("best(-1, 0)", e.best(-1, 0), 10);
        for (int i = 0; i < 10; i++) {
            int[] p = poses[i];
            ask("corners", e, i, p[0], p[1], p[2], p[3], p[4], 1, 1);
        }
        due("best(10, 0)", e.best(10, 0), NONE);
        due("best(HIGH, 6)", e.best(HIGH, 6), NONE);
        for (int[] bad : new int[][] {{-2, 0}, {LOW, 0}, {0, 7}, {0, -1}, {10, 7}, {0, LOW}, {0, HIGH}}) {
            due("best of a bad number", e.best(bad[0], bad[1]), BAD);
        }
        e.turn(4, 3, 1);
        due("what is looked at does not matter", e.best(0, 2), 2);
        e.edge(0, 0, 0);
        due("the best of what is left", 10 * e.best(0, 0) + e.best(0, 1), 33);
        e.undo();
        due("the best as it was", 10 * e.best(0, 0) + e.best(0, 1), 0);
    }

    private static void bestFew() {
        // Dots in all four corners fit at one place by each turn and flip, by scale 2 alone.
        EdgeStencil e = laid("g44;r#..#;r....;r....;r#...;dff;dif;dfi;dii;m199;");
        due("as many as there are", e.best(-1, 0), 8);
        ask("square", e, 0, 0, 0, 2, 0, 0, 3, 3);
        ask("square", e, 1, 3, 0, 2, 0, 1, 3, 3);
        ask("square", e, 7, 0, 0, 2, 3, 1, 3, 3);
        due("best beyond", e.best(8, 0), NONE);
        // The column (1 and 2) is as ill as the row (0 and 3): the less worst is ahead, though its turn is higher.
        EdgeStencil worst = laid("g44;r....;r#...;dff;dif;m099;");
        int[][] poses = {{0, 0, 2, 1, 0, 3, 2}, {0, 3, 2, 1, 1, 3, 2}, {0, 3, 2, 3, 0, 3, 2}, {0, 0, 2, 3, 1, 3, 2},
            {0, 1, 2, 0, 0, 3, 3}, {3, 1, 2, 0, 1, 3, 3}, {3, 1, 2, 2, 0, 3, 3}, {0, 1, 2, 2, 1, 3, 3}};
        for (int i = 0; i < poses.length; i++) {
            ask("row or column", worst, i, poses[i]);
        }
        EdgeStencil none = laid("g44;dff;dkf;");
        due("none fits", none.best(-1, 0), 0);
        due("none fits", none.best(0, 0), NONE);
    }

    private static void spreadIs(EdgeStencil e, int a, int i, int... want) {
        for (int what = 0; what < want.length; what++) {
            due("spread(" + a + ", " + i + ", " + what + ")", e.spread(a, i, what), want[what]);
        }
    }

    private static void spread() {
        EdgeStencil e = laid(CORNERS + "dff;dgf;m010;");
        due("spread(3, -1, 0)", e.spread(3, -1, 0), 4);
        spreadIs(e, 3, 0, 0, 0, 2, 0, 0, 1, 1);
        spreadIs(e, 3, 1, 3, 3, 2, 0, 0, 1, 1);
        spreadIs(e, 3, 2, 4, 1, 3, 1, 0, 2, 2);
        spreadIs(e, 3, 3, 1, 2, 4, 1, 1, 4, 3);
        due("spread(3, 4, 0)", e.spread(3, 4, 0), NONE);
        due("spread(1, -1, 0)", e.spread(1, -1, 0), 10);
        due("spread(1, 10, 0)", e.spread(1, 10, 0), NONE);
        due("spread(8, -1, 0)", e.spread(8, -1, 0), 1);
        due("spread(7, -1, 0)", e.spread(7, -1, 0), 2);
        due("spread(20, HIGH, 0)", e.spread(20, HIGH, 0), NONE);
        for (int[] bad : new int[][] {{0, 0, 0}, {21, 0, 0}, {1, -2, 0}, {1, 0, 7}, {1, 0, -1}, {1, 99, 7}, {0, 99, 0},
            {LOW, LOW, LOW}, {HIGH, HIGH, HIGH}}) {
            due("spread of a bad number", e.spread(bad[0], bad[1], bad[2]), BAD);
        }
        e.edge(0, 0, 0);
        spreadIs(e, 3, 0, 3, 3, 2, 0, 0, 1, 1);
        EdgeStencil none = laid("g44;dff;dkf;");
        due("none fits", none.spread(1, -1, 0), 0);
        due("none fits", none.spread(1, 0, 0), NONE);
    }

    private static void take() {
        EdgeStencil e = laid(CORNERS + "dff;dgf;m010;");
        for (int[] bad : new int[][] {{-1, 0}, {4, 0}, {0, -1}, {0, 991}, {LOW, LOW}, {HIGH, HIGH}}) {
            due("take of a bad number", e.take(bad[0], bad[1]), BAD);
            due("takes of a bad number", e.takes(bad[0], bad[1]), BAD);
        }
        due("it is more ill", e.take(0, 0), NO);
        due("nothing changed", e.count(6), 0);
        e.turn(3, 2, 1);
        due("take(0, 1)", e.take(0, 1), 1);
        due("cell(0, 0)", e.cell(0, 0), 0);
        due("cell(4, 3)", e.cell(4, 3), 1);
        due("far(0, 0)", e.far(0, 0), 7);
        due("count(2)", e.count(2), 1);
        due("count(6)", e.count(6), 1);
        due("take(0, 990)", e.take(0, 990), 1);
        due("count(2)", e.count(2), 0);
        due("without edges", e.take(3, 990), NO);
        due("what is looked at stays", 100 * e.count(8) + 10 * e.count(9) + e.count(10), 321);
        due("undo", e.undo(), 1);
        due("cell(4, 3)", e.cell(4, 3), 1);
        due("ledger(-1, 0)", e.ledger(-1, 0), 1);
        due("undo", e.undo(), 0);
        due("cell(0, 0)", e.cell(0, 0), 1);
        due("ledger(-1, 0)", e.ledger(-1, 0), 0);
        due("take(3, 1) reaches farther", e.take(3, 1), 1);
        due("take(2, 990) with the other edge at 7", e.take(2, 990), 1);
    }

    private static void takeTellsNone() {
        EdgeStencil e = laid("g44;r....;r.#..;dff;dif;dfi;dii;m099;");
        due("it tells none", e.take(1, 990), NO);
        due("it tells none", e.takes(1, 990), 0);
        due("nothing changed", e.count(6), 0);
        due("it is more ill", e.take(2, 11), NO);
        due("it tells one", e.take(2, 12), 1);
        EdgeStencil none = laid("g44;r####;dff;dkf;");
        due("no best", none.take(3, 990), NO);
        due("no best", none.takes(3, 990), 0);
    }

    private static void takes() {
        EdgeStencil e = laid(CORNERS + "dff;dgf;m010;");
        due("takes(0, 0)", e.takes(0, 0), 0);
        due("takes(0, 1)", e.takes(0, 1), 2);
        due("count(2)", e.count(2), 0);
        due("count(6)", e.count(6), 2);
        due("undo takes back one", e.undo(), 1);
        due("count(2)", e.count(2), 1);
        due("takes again", e.takes(0, 1), 1);
    }

    private static void takesAllEight() {
        EdgeStencil e = laid("g54;r#####;r#####;dff;");
        due("takes(0, 0)", e.takes(0, 0), 8);
        due("count(2)", e.count(2), 2);
        due("takes of a full ledger", e.takes(0, 0), 0);
        due("take of a full ledger", e.take(0, 0), FULL);
        due("a bad take of a full ledger", e.take(4, 0), BAD);
        due("a bad takes of a full ledger", e.takes(0, 991), BAD);
        due("ledger(-1, 0)", e.ledger(-1, 0), 8);
        due("ledger(8, 0)", e.ledger(8, 0), NONE);
        due("count(6)", e.count(6), 6);
        for (int more = 5; more >= 0; more--) {
            due("undo", e.undo(), more);
            due("ledger(-1, 0)", e.ledger(-1, 0), 2 + more);
        }
        due("undo", e.undo(), NO);
        due("count(2)", e.count(2), 8);
        due("take(1, 0)", e.take(1, 0), 3);
        due("takes up to eight", e.takes(0, 0), 5);
        due("ledger(-1, 0)", e.ledger(-1, 0), 8);
        due("take", e.take(0, 0), FULL);
    }

    private static void ledger() {
        EdgeStencil e = laid(CORNERS + "dff;dgf;m010;");
        due("ledger(-1, 0)", e.ledger(-1, 0), 0);
        due("ledger(0, 6)", e.ledger(0, 6), NONE);
        e.edge(4, 2, 1);
        e.edge(3, 3, 1);
        e.takes(1, 5);
        due("ledger(-1, 6)", e.ledger(-1, 6), 2);
        int[][] entries = {{3, 3, 2, 0, 0, 0, 3}, {0, 0, 2, 0, 0, 1, 1}};
        for (int i = 0; i < 2; i++) {
            for (int what = 0; what < 7; what++) {
                due("ledger(" + i + ", " + what + ")", e.ledger(i, what), entries[i][what]);
            }
        }
        due("ledger(2, 0)", e.ledger(2, 0), NONE);
        due("ledger(2, 6)", e.ledger(2, 6), NONE);
        due("ledger(HIGH, 6)", e.ledger(HIGH, 6), NONE);
        for (int[] bad : new int[][] {{-2, 0}, {LOW, 6}, {0, 7}, {0, -1}, {9, 7}, {0, LOW}, {0, HIGH}}) {
            due("ledger of a bad number", e.ledger(bad[0], bad[1]), BAD);
        }
        e.undo();
        due("undone, it is out", e.ledger(1, 0), NONE);
        due("the first stays", e.ledger(0, 6), 3);
        e.edge(0, 0, 0);
        e.undo();
        due("another undone, it stays", e.ledger(-1, 0), 1);
    }

    private static void count() {
        EdgeStencil e = laid("g6a;r#.#.#.;dff;dab;m207;");
        e.turn(3, 2, 1);
        e.edge(5, 9, 1);
        counts("all", e, 6, 10, 4, 2, 2, 7, 1, 25, 3, 2, 1);
        for (int bad : new int[] {-1, 11, LOW, HIGH}) {
            due("count(" + bad + ")", e.count(bad), BAD);
        }
    }
}
