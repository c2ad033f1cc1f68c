/** The calls of the face by number, on the class and on the model alike. */
final class Calls {
    static final String[] NAMES = {"write", "wipe", "fault", "lay", "edge", "dot", "drop", "measure", "undo", "cell",
        "far", "nearest", "rings", "turn", "lies", "pose", "fits", "bound", "tells", "best", "spread", "take",
        "takes", "ledger", "count"};

    private Calls() {
    }

    static int on(EdgeStencil e, int call, int a, int b, int c) {
        return switch (call) {
            case 0 -> e.write(a);
            case 1 -> e.wipe();
            case 2 -> e.fault();
            case 3 -> e.lay();
            case 4 -> e.edge(a, b, c);
            case 5 -> e.dot(a, b);
            case 6 -> e.drop(a);
            case 7 -> e.measure(a, b);
            case 8 -> e.undo();
            case 9 -> e.cell(a, b);
            case 10 -> e.far(a, b);
            case 11 -> e.nearest(a, b);
            case 12 -> e.rings(a);
            case 13 -> e.turn(a, b, c);
            case 14 -> e.lies(a, b);
            case 15 -> e.pose(a, b, c);
            case 16 -> e.fits();
            case 17 -> e.bound(a, b, c);
            case 18 -> e.tells(a, b, c);
            case 19 -> e.best(a, b);
            case 20 -> e.spread(a, b, c);
            case 21 -> e.take(a, b);
            case 22 -> e.takes(a, b);
            case 23 -> e.ledger(a, b);
            default -> e.count(a);
        };
    }

    static int on(Model e, int call, int a, int b, int c) {
        return switch (call) {
            case 0 -> e.write(a);
            case 1 -> e.wipe();
            case 2 -> e.fault();
            case 3 -> e.lay();
            case 4 -> e.edge(a, b, c);
            case 5 -> e.dot(a, b);
            case 6 -> e.drop(a);
            case 7 -> e.measure(a, b);
            case 8 -> e.undo();
            case 9 -> e.cell(a, b);
            case 10 -> e.far(a, b);
            case 11 -> e.nearest(a, b);
            case 12 -> e.rings(a);
            case 13 -> e.turn(a, b, c);
            case 14 -> e.lies(a, b);
            case 15 -> e.pose(a, b, c);
            case 16 -> e.fits();
            case 17 -> e.bound(a, b, c);
            case 18 -> e.tells(a, b, c);
            case 19 -> e.best(a, b);
            case 20 -> e.spread(a, b, c);
            case 21 -> e.take(a, b);
            case 22 -> e.takes(a, b);
            case 23 -> e.ledger(a, b);
            default -> e.count(a);
        };
    }
}
