/** A stencil of dots slid over a grid with edges: how ill it fits, where it fits best, what it takes away. */
public final class EdgeStencil {
    public static final int BAD = -1, NO = -2, FULL = -3, NONE = -4;

    private static final int LEAST_SIDE = 4, MOST_SIDE = 11;
    private static final int MOST_LETTERS = 200, FIRST_LETTER = 32, LAST_LETTER = 126;
    private static final int MOST_DOTS = 10, MOST_OFFSET = 5;
    private static final int LAST_METRIC = 2, MOST_CAP = 99;
    private static final int LEAST_SCALE = 2, MOST_SCALE = 4, MOST_TURNS = 3;
    private static final int MOST_BEST = 10, MOST_SPACING = 20;
    private static final int MOST_REACH = 3, MOST_ILL = 990, MOST_TAKEN = 8;
    private static final int MOST_UNDONE = 6;
    private static final int PART_ILL = 5, LAST_PART = 6;
    /** More than any rank (990, 99, the last manner and place: below 300 million) and any way between two cells. */
    private static final int BEYOND = 1 << 30;

    private static final String AT_FIRST =
            "gaa;r..........;r..####....;r..#.......;r..#....#..;r.......#..;r....####..;r..........;r.#........;r.#........;r.####.....;dff;dgf;dhf;dif;dfe;dfd;m120;";

    private final Script script = new Script();
    private final Reader reader = new Reader();
    private final Scene scene = new Scene();
    private final History history = new History();
    private final Book book = new Book();
    private final Field field = new Field();
    private final Ranking ranking = new Ranking();
    private final Shape shape = new Shape();
    private final Fit fit = new Fit();
    private final Told told = new Told();
    private int scale = LEAST_SCALE;
    private int turns = 0;
    private int flip = 0;
    private boolean fieldStale = true;
    private boolean rankingStale = true;

    public EdgeStencil() {
        for (int i = 0; i < AT_FIRST.length(); i++) {
            script.append(AT_FIRST.charAt(i));
        }
        if (reader.readAll(script) == NONE) {
            scene.copyFrom(reader.scene);
        }
        script.length = 0;
    }

    // ---- told

    public int write(int letter) {
        if (letter < FIRST_LETTER || letter > LAST_LETTER) {
            return BAD;
        }
        return script.append((char) letter) ? script.length : FULL;
    }

    public int wipe() {
        int was = script.length;
        script.length = 0;
        return was;
    }

    public int fault() {
        return reader.readAll(script);
    }

    public int lay() {
        if (reader.readAll(script) != NONE || !reader.gridTold || reader.scene.dots == 0) {
            return NO;
        }
        scene.copyFrom(reader.scene);
        history.size = 0;
        book.size = 0;
        lookAt(LEAST_SCALE, 0, 0);
        makeStale();
        return scene.edges();
    }

    public int edge(int x, int y, int is) {
        if (!scene.has(x, y) || !isFrom(0, is, 1)) {
            return BAD;
        }
        if (scene.edgeAt(x, y) == is) {
            return NO;
        }
        startChange();
        scene.flipEdge(x, y);
        return scene.edges();
    }

    public int dot(int x, int y) {
        if (!isFrom(-MOST_OFFSET, x, MOST_OFFSET) || !isFrom(-MOST_OFFSET, y, MOST_OFFSET)) {
            return BAD;
        }
        if (scene.hasDot(x, y)) {
            return NO;
        }
        if (scene.dots >= MOST_DOTS) {
            return FULL;
        }
        startChange();
        scene.addDot(x, y);
        return scene.dots - 1;
    }

    public int drop(int d) {
        if (!isDot(d)) {
            return BAD;
        }
        if (scene.dots == 1) {
            return NO;
        }
        startChange();
        scene.removeDot(d);
        return scene.dots;
    }

    public int measure(int m, int cap) {
        if (!isFrom(0, m, LAST_METRIC) || !isFrom(1, cap, MOST_CAP)) {
            return BAD;
        }
        if (scene.metric == m && scene.cap == cap) {
            return NO;
        }
        int was = 100 * scene.metric + scene.cap;
        startChange();
        scene.metric = m;
        scene.cap = cap;
        return was;
    }

    public int undo() {
        if (history.size == 0) {
            return NO;
        }
        history.restoreLatest(scene, book);
        makeStale();
        return history.size;
    }

    // ---- the field

    public int cell(int x, int y) {
        return scene.has(x, y) ? scene.edgeAt(x, y) : BAD;
    }

    public int far(int x, int y) {
        return scene.has(x, y) ? freshField().at(x, y) : BAD;
    }

    public int nearest(int x, int y) {
        if (!scene.has(x, y)) {
            return BAD;
        }
        int found = NONE;
        int least = BEYOND;
        for (int row = 0; row < scene.height; row++) {
            for (int column = 0; column < scene.width; column++) {
                int apart = scene.apart(column - x, row - y);
                if (scene.edgeAt(column, row) == 1 && apart < least) {
                    least = apart;
                    found = 100 * row + column;
                }
            }
        }
        return found;
    }

    public int rings(int n) {
        return isFrom(0, n, MOST_CAP) ? freshField().cellsSoFar(n) : BAD;
    }

    // ---- poses

    public int turn(int s, int t, int f) {
        if (!isFrom(LEAST_SCALE, s, MOST_SCALE) || !isFrom(0, t, MOST_TURNS) || !isFrom(0, f, 1)) {
            return BAD;
        }
        lookAt(s, t, f);
        return 0;
    }

    public int lies(int d, int what) {
        if (!isDot(d) || !isFrom(0, what, 1)) {
            return BAD;
        }
        Shape looked = lookedAt();
        return 100 + (what == 0 ? looked.dx[d] : looked.dy[d]);
    }

    public int pose(int x, int y, int what) {
        if (!scene.has(x, y) || !isFrom(0, what, 3)) {
            return BAD;
        }
        if (!fit.weigh(freshField(), lookedAt(), x, y)) {
            return NONE;
        }
        switch (what) {
            case 0:
                return fit.ill;
            case 1:
                return fit.worst;
            case 2:
                return fit.worstDot;
            default:
                return fit.onEdges;
        }
    }

    public int fits() {
        Shape looked = lookedAt();
        int places = 0;
        for (int y = 0; y < scene.height; y++) {
            for (int x = 0; x < scene.width; x++) {
                if (looked.isInside(scene.width, scene.height, x, y)) {
                    places++;
                }
            }
        }
        return places;
    }

    public int bound(int x, int y, int n) {
        if (!scene.has(x, y) || !isFrom(1, n, MOST_SIDE)) {
            return BAD;
        }
        Field fresh = freshField();
        Shape looked = lookedAt();
        int right = Math.min(x + n, scene.width) - 1;
        int bottom = Math.min(y + n, scene.height) - 1;
        int together = 0;
        for (int d = 0; d < looked.dots; d++) {
            int dx = looked.dx[d];
            int dy = looked.dy[d];
            int least = fresh.leastIn(x + dx, y + dy, right + dx, bottom + dy);
            if (least == NONE) {
                return NONE;
            }
            together += least;
        }
        return together;
    }

    public int tells(int x, int y, int reach) {
        if (!scene.has(x, y) || !isFrom(0, reach, MOST_REACH)) {
            return BAD;
        }
        Shape looked = lookedAt();
        if (!looked.isInside(scene.width, scene.height, x, y)) {
            return NONE;
        }
        return told.seek(scene, looked, x, y, reach);
    }

    // ---- the best

    public int best(int i, int what) {
        if (i < -1 || !isFrom(0, what, LAST_PART)) {
            return BAD;
        }
        Ranking fresh = freshRanking();
        return partOf(fresh.first, fresh.found, i, what);
    }

    public int spread(int a, int i, int what) {
        if (!isFrom(1, a, MOST_SPACING) || i < -1 || !isFrom(0, what, LAST_PART)) {
            return BAD;
        }
        Ranking fresh = freshRanking();
        fresh.chooseApart(a);
        return partOf(fresh.chosen, fresh.chosenCount, i, what);
    }

    public int take(int reach, int ill) {
        if (!isFrom(0, reach, MOST_REACH) || !isFrom(0, ill, MOST_ILL)) {
            return BAD;
        }
        return book.size < MOST_TAKEN ? takeFirst(reach, ill) : FULL;
    }

    public int takes(int reach, int ill) {
        if (!isFrom(0, reach, MOST_REACH) || !isFrom(0, ill, MOST_ILL)) {
            return BAD;
        }
        int times = 0;
        for (int entry = book.size; entry < MOST_TAKEN; entry++) {
            if (takeFirst(reach, ill) == NO) {
                return times;
            }
            times++;
        }
        return times;
    }

    public int ledger(int i, int what) {
        if (i < -1 || !isFrom(0, what, LAST_PART)) {
            return BAD;
        }
        if (i >= 0 && i < book.size && what == LAST_PART) {
            return book.gone[i];
        }
        return partOf(book.ranks, book.size, i, what);
    }

    public int count(int what) {
        switch (what) {
            case 0:
                return scene.width;
            case 1:
                return scene.height;
            case 2:
                return scene.edges();
            case 3:
                return scene.dots;
            case 4:
                return scene.metric;
            case 5:
                return scene.cap;
            case 6:
                return history.size;
            case 7:
                return script.length;
            case 8:
                return scale;
            case 9:
                return turns;
            case 10:
                return flip;
            default:
                return BAD;
        }
    }

    // ---- what the calls share

    private static boolean isFrom(int least, int number, int most) {
        return number >= least && number <= most;
    }

    private boolean isDot(int d) {
        return d >= 0 && d < scene.dots;
    }

    private void lookAt(int s, int t, int f) {
        scale = s;
        turns = t;
        flip = f;
    }

    private Shape lookedAt() {
        shape.form(scene, scale, turns, flip);
        return shape;
    }

    private void startChange() {
        history.keep(scene, book.size);
        makeStale();
    }

    private void makeStale() {
        fieldStale = true;
        rankingStale = true;
    }

    private Field freshField() {
        if (fieldStale) {
            field.workOut(scene);
            fieldStale = false;
        }
        return field;
    }

    private Ranking freshRanking() {
        if (rankingStale) {
            ranking.seek(scene, freshField());
            rankingStale = false;
        }
        return ranking;
    }

    private static int partOf(int[] ranks, int size, int i, int what) {
        if (i == -1) {
            return size;
        }
        return i >= 0 && i < size && i < ranks.length ? Rank.part(ranks[i], what) : NONE;
    }

    private int takeFirst(int reach, int ill) {
        Ranking fresh = freshRanking();
        if (fresh.found == 0) {
            return NO;
        }
        int rank = fresh.first[0];
        if (Rank.part(rank, PART_ILL) > ill) {
            return NO;
        }
        shape.form(scene, Rank.part(rank, 2), Rank.part(rank, 3), Rank.part(rank, 4));
        int gone = told.seek(scene, shape, Rank.part(rank, 0), Rank.part(rank, 1), reach);
        if (gone == 0) {
            return NO;
        }
        startChange();
        scene.clearEdges(told.rows);
        book.add(rank, gone);
        return gone;
    }

    /** THE TEXT. */
    private static final class Script {
        private final char[] letters = new char[MOST_LETTERS];
        private int length = 0;

        boolean append(char letter) {
            if (length >= letters.length) {
                return false;
            }
            letters[length] = letter;
            length++;
            return true;
        }

        /** Behind the end stands a letter that no item may have, so a reader needs no other look at the end. */
        char at(int place) {
            return place >= 0 && place < length && place < letters.length ? letters[place] : (char) 0;
        }
    }

    /** Reads a text item by item into a scene of its own, so that a fault leaves the laid one as it is. */
    private static final class Reader {
        private final Scene scene = new Scene();
        private boolean gridTold = false;
        private int rowsTold = 0;

        /** The place of the first item that is not so, or NONE. */
        int readAll(Script script) {
            scene.clear();
            gridTold = false;
            rowsTold = 0;
            int place = 0;
            for (int item = 0; item < MOST_LETTERS && place < script.length; item++) {
                int size = readItem(script, place);
                if (size == 0) {
                    return place;
                }
                place += size;
            }
            return NONE;
        }

        /** How many letters the item has, 0 if it is not so; likewise the readers of each kind. */
        private int readItem(Script script, int place) {
            char kind = script.at(place);
            if (!gridTold) {
                return kind == 'g' ? readGrid(script, place) : 0;
            }
            switch (kind) {
                case 'r':
                    return readRow(script, place);
                case 'd':
                    return readDot(script, place);
                case 'm':
                    return readMetric(script, place);
                default:
                    return 0;
            }
        }

        private int readGrid(Script script, int place) {
            int width = sideOf(script.at(place + 1));
            int height = sideOf(script.at(place + 2));
            if (!isFrom(LEAST_SIDE, width, MOST_SIDE) || !isFrom(LEAST_SIDE, height, MOST_SIDE)
                    || script.at(place + 3) != ';') {
                return 0;
            }
            scene.width = width;
            scene.height = height;
            gridTold = true;
            return 4;
        }

        private int readRow(Script script, int place) {
            if (rowsTold >= scene.height || rowsTold >= MOST_SIDE) {
                return 0;
            }
            int row = 0;
            for (int x = 0; x < scene.width; x++) {
                char letter = script.at(place + 1 + x);
                if (letter == '#') {
                    row |= 1 << x;
                } else if (letter != '.') {
                    return 0;
                }
            }
            if (script.at(place + 1 + scene.width) != ';') {
                return 0;
            }
            scene.rows[rowsTold] = row;
            rowsTold++;
            return scene.width + 2;
        }

        private int readDot(Script script, int place) {
            int x = script.at(place + 1) - 'a' - MOST_OFFSET;
            int y = script.at(place + 2) - 'a' - MOST_OFFSET;
            if (!isFrom(-MOST_OFFSET, x, MOST_OFFSET) || !isFrom(-MOST_OFFSET, y, MOST_OFFSET)
                    || script.at(place + 3) != ';' || scene.dots >= MOST_DOTS || scene.hasDot(x, y)) {
                return 0;
            }
            scene.addDot(x, y);
            return 4;
        }

        private int readMetric(Script script, int place) {
            int metric = script.at(place + 1) - '0';
            int tens = script.at(place + 2) - '0';
            int ones = script.at(place + 3) - '0';
            if (!isFrom(0, metric, LAST_METRIC) || !isFrom(0, tens, 9) || !isFrom(0, ones, 9)
                    || tens + ones == 0 || script.at(place + 4) != ';') {
                return 0;
            }
            scene.metric = metric;
            scene.cap = 10 * tens + ones;
            return 5;
        }

        private static int sideOf(char sign) {
            if (sign == 'a' || sign == 'b') {
                return sign - 'a' + 10;
            }
            return sign - '0' <= 9 ? sign - '0' : -1;
        }
    }

    /** All that a text tells and a change makes another. */
    private static final class Scene {
        private int width = LEAST_SIDE;
        private int height = LEAST_SIDE;
        /** Bit x of row y is 1, if the cell (x, y) is an edge: small, since a scene is copied at each change. */
        private final int[] rows = new int[MOST_SIDE];
        private final int[] dotX = new int[MOST_DOTS];
        private final int[] dotY = new int[MOST_DOTS];
        private int dots = 0;
        private int metric = 0;
        private int cap = MOST_CAP;

        void clear() {
            width = LEAST_SIDE;
            height = LEAST_SIDE;
            for (int y = 0; y < rows.length; y++) {
                rows[y] = 0;
            }
            dots = 0;
            metric = 0;
            cap = MOST_CAP;
        }

        void copyFrom(Scene other) {
            width = other.width;
            height = other.height;
            for (int y = 0; y < MOST_SIDE; y++) {
                rows[y] = other.rows[y];
            }
            for (int d = 0; d < MOST_DOTS; d++) {
                dotX[d] = other.dotX[d];
                dotY[d] = other.dotY[d];
            }
            dots = other.dots;
            metric = other.metric;
            cap = other.cap;
        }

        boolean has(int x, int y) {
            return x >= 0 && x < width && y >= 0 && y < height;
        }

        int edgeAt(int x, int y) {
            return has(x, y) ? rows[y] >> x & 1 : 0;
        }

        void flipEdge(int x, int y) {
            if (has(x, y)) {
                rows[y] ^= 1 << x;
            }
        }

        void clearEdges(int[] gone) {
            for (int y = 0; y < rows.length && y < gone.length; y++) {
                rows[y] &= ~gone[y];
            }
        }

        int edges() {
            int edges = 0;
            for (int y = 0; y < rows.length; y++) {
                edges += Integer.bitCount(rows[y]);
            }
            return edges;
        }

        boolean hasDot(int x, int y) {
            for (int d = 0; d < dots; d++) {
                if (dotX[d] == x && dotY[d] == y) {
                    return true;
                }
            }
            return false;
        }

        void addDot(int x, int y) {
            if (dots < MOST_DOTS) {
                dotX[dots] = x;
                dotY[dots] = y;
                dots++;
            }
        }

        void removeDot(int d) {
            if (d < 0 || d >= dots) {
                return;
            }
            for (int later = d + 1; later < dots; later++) {
                dotX[later - 1] = dotX[later];
                dotY[later - 1] = dotY[later];
            }
            dots--;
        }

        /** How far two cells are by the measure. */
        int apart(int dx, int dy) {
            int across = Math.abs(dx);
            int along = Math.abs(dy);
            int greater = Math.max(across, along);
            switch (metric) {
                case 0:
                    return across + along;
                case 1:
                    return greater;
                default:
                    return 3 * greater + Math.min(across, along);
            }
        }
    }

    /** The scenes ahead of the latest changes, in a ring. */
    private static final class History {
        private final Scene[] scenes = new Scene[MOST_UNDONE];
        private final int[] bookSizes = new int[MOST_UNDONE];
        private int next = 0;
        private int size = 0;

        History() {
            for (int i = 0; i < MOST_UNDONE; i++) {
                scenes[i] = new Scene();
            }
        }

        void keep(Scene scene, int bookSize) {
            scenes[next].copyFrom(scene);
            bookSizes[next] = bookSize;
            next = (next + 1) % MOST_UNDONE;
            size = Math.min(size + 1, MOST_UNDONE);
        }

        /** The book only grows behind what a kept scene knew of it, so its size is all that must come back. */
        void restoreLatest(Scene scene, Book book) {
            if (size > 0) {
                size--;
                next = (next + MOST_UNDONE - 1) % MOST_UNDONE;
                scene.copyFrom(scenes[next]);
                book.size = bookSizes[next];
            }
        }
    }

    /** The LEDGER: of each pose taken its rank and how many edges went. */
    private static final class Book {
        private final int[] ranks = new int[MOST_TAKEN];
        private final int[] gone = new int[MOST_TAKEN];
        private int size = 0;

        void add(int rank, int edges) {
            if (size < MOST_TAKEN) {
                ranks[size] = rank;
                gone[size] = edges;
                size++;
            }
        }
    }

    /** FAR of each cell, with a rim of CAP around the cells, so that each of them has eight neighbours. */
    private static final class Field {
        private static final int[] STRAIGHT_STEP = {1, 1, 3};
        private static final int[] SLANTED_STEP = {2, 1, 4};
        private static final int STRIDE = MOST_SIDE + 2;

        private final int[] fars = new int[STRIDE * STRIDE];
        private int width = 0;
        private int height = 0;

        /**
         * Each measure is the length of a way of straight and slanted steps, in any order of them; so all that come
         * from cells passed already can be made first, the others on the way back, and two passes find every way.
         */
        void workOut(Scene scene) {
            start(scene);
            int metric = isFrom(0, scene.metric, LAST_METRIC) ? scene.metric : 0;
            int straight = STRAIGHT_STEP[metric];
            int slanted = SLANTED_STEP[metric];
            for (int y = 0; y < height; y++) {
                for (int x = 0; x < width; x++) {
                    stepTo(indexOf(x, y), -1, straight, slanted);
                }
            }
            for (int y = height - 1; y >= 0; y--) {
                for (int x = width - 1; x >= 0; x--) {
                    stepTo(indexOf(x, y), 1, straight, slanted);
                }
            }
        }

        private void start(Scene scene) {
            width = scene.width;
            height = scene.height;
            for (int i = 0; i < fars.length; i++) {
                fars[i] = scene.cap;
            }
            for (int y = 0; y < height && y < scene.rows.length; y++) {
                for (int x = 0; x < width; x++) {
                    if ((scene.rows[y] >> x & 1) == 1) {
                        fars[indexOf(x, y)] = 0;
                    }
                }
            }
        }

        /** From the neighbours of one side: -1 those left and above, 1 those right and below. */
        private void stepTo(int index, int side, int straight, int slanted) {
            int beyond = index + side * STRIDE;
            int byStraight = Math.min(fars[index + side], fars[beyond]) + straight;
            int bySlanted = Math.min(fars[beyond - 1], fars[beyond + 1]) + slanted;
            fars[index] = Math.min(fars[index], Math.min(byStraight, bySlanted));
        }

        static int indexOf(int x, int y) {
            return (y + 1) * STRIDE + x + 1;
        }

        int at(int x, int y) {
            return x >= 0 && x < width && y >= 0 && y < height ? fars[indexOf(x, y)] : NONE;
        }

        int cellsSoFar(int n) {
            int cells = 0;
            for (int y = 0; y < height; y++) {
                for (int x = 0; x < width; x++) {
                    if (fars[indexOf(x, y)] == n) {
                        cells++;
                    }
                }
            }
            return cells;
        }

        /** The least of the cells of a box that are in the grid, or NONE. */
        int leastIn(int left, int top, int right, int bottom) {
            int least = NONE;
            for (int y = Math.max(top, 0); y <= bottom && y < height; y++) {
                for (int x = Math.max(left, 0); x <= right && x < width; x++) {
                    int far = fars[indexOf(x, y)];
                    if (least == NONE || far < least) {
                        least = far;
                    }
                }
            }
            return least;
        }
    }

    /** Where the dots lie from the place, by a scale, turn and flip. */
    private static final class Shape {
        private final int[] dx = new int[MOST_DOTS];
        private final int[] dy = new int[MOST_DOTS];
        private int dots = 0;
        private int left = 0;
        private int right = 0;
        private int top = 0;
        private int bottom = 0;

        void form(Scene scene, int scale, int turns, int flip) {
            dots = scene.dots;
            for (int d = 0; d < dots; d++) {
                int x = flip == 1 ? -scene.dotX[d] : scene.dotX[d];
                int y = scene.dotY[d];
                for (int quarter = 0; quarter < turns; quarter++) {
                    int before = x;
                    x = -y;
                    y = before;
                }
                dx[d] = Math.floorDiv(x * scale + 1, 2);
                dy[d] = Math.floorDiv(y * scale + 1, 2);
            }
            findBox();
        }

        private void findBox() {
            left = dx[0];
            right = dx[0];
            top = dy[0];
            bottom = dy[0];
            for (int d = 1; d < dots; d++) {
                left = Math.min(left, dx[d]);
                right = Math.max(right, dx[d]);
                top = Math.min(top, dy[d]);
                bottom = Math.max(bottom, dy[d]);
            }
        }

        /** Whether all dots lie on cells of a grid, if this is laid at a place. */
        boolean isInside(int width, int height, int x, int y) {
            return x + left >= 0 && x + right < width && y + top >= 0 && y + bottom < height;
        }
    }

    /** How ill a pose fits, and which dot worst. */
    private static final class Fit {
        private int ill = 0;
        private int worst = 0;
        private int worstDot = 0;
        private int onEdges = 0;

        /** False, if it does not fit. */
        boolean weigh(Field field, Shape shape, int x, int y) {
            if (!shape.isInside(field.width, field.height, x, y)) {
                return false;
            }
            ill = 0;
            worst = 0;
            worstDot = 0;
            onEdges = 0;
            for (int d = 0; d < shape.dots; d++) {
                int far = field.fars[Field.indexOf(x + shape.dx[d], y + shape.dy[d])];
                ill += far;
                if (far == 0) {
                    onEdges++;
                }
                if (far > worst) {
                    worst = far;
                    worstDot = d;
                }
            }
            return true;
        }
    }

    /** The edges that a pose tells. */
    private static final class Told {
        private final int[] rows = new int[MOST_SIDE];

        /** How many they are; their bits are in the rows then, as a scene has them. */
        int seek(Scene scene, Shape shape, int x, int y, int reach) {
            int edges = 0;
            for (int row = 0; row < MOST_SIDE; row++) {
                rows[row] = 0;
                for (int column = 0; column < MOST_SIDE; column++) {
                    if (scene.edgeAt(column, row) == 1 && isNear(scene, shape, column - x, row - y, reach)) {
                        rows[row] |= 1 << column;
                        edges++;
                    }
                }
            }
            return edges;
        }

        private static boolean isNear(Scene scene, Shape shape, int dx, int dy, int reach) {
            for (int d = 0; d < shape.dots; d++) {
                if (scene.apart(dx - shape.dx[d], dy - shape.dy[d]) <= reach) {
                    return true;
                }
            }
            return false;
        }
    }

    /** A pose and how it fits as one number, the lower the earlier in rank; 10 dots of 99 keep it within an int. */
    private static final class Rank {
        private static final int NOWHERE = BEYOND;
        private static final int PLACES = MOST_SIDE * MOST_SIDE;
        private static final int FLIPS = 2, QUARTERS = 4, SCALES = 3, WORSTS = MOST_CAP + 1;
        private static final int MANNERS = SCALES * QUARTERS * FLIPS;

        /** A manner is a scale, turn and flip in the order of rank, a place its row's start and column. */
        static int of(Fit fit, int manner, int place) {
            return ((fit.ill * WORSTS + fit.worst) * MANNERS + manner) * PLACES + place;
        }

        static int scaleOf(int manner) {
            return manner / (QUARTERS * FLIPS) + LEAST_SCALE;
        }

        static int turnsOf(int manner) {
            return manner / FLIPS % QUARTERS;
        }

        static int flipOf(int manner) {
            return manner % FLIPS;
        }

        static int part(int rank, int what) {
            int place = rank % PLACES;
            int manner = rank / PLACES % MANNERS;
            int fitness = rank / (PLACES * MANNERS);
            switch (what) {
                case 0:
                    return place % MOST_SIDE;
                case 1:
                    return place / MOST_SIDE;
                case 2:
                    return scaleOf(manner);
                case 3:
                    return turnsOf(manner);
                case 4:
                    return flipOf(manner);
                case PART_ILL:
                    return fitness / WORSTS;
                default:
                    return fitness % WORSTS;
            }
        }
    }

    /** The poses that fit, the first ones of all and the first ones that lie apart. */
    private static final class Ranking {
        private final Shape shape = new Shape();
        private final Fit fit = new Fit();
        private final int[] first = new int[MOST_BEST];
        private int found = 0;
        /** Of poses at one place only the first can be chosen to lie apart, so no other is kept. */
        private final int[] firstAtPlace = new int[Rank.PLACES];
        private final boolean[] open = new boolean[Rank.PLACES];
        private final int[] chosen = new int[MOST_BEST];
        private int chosenCount = 0;
        private int chosenBy = 0;

        void seek(Scene scene, Field field) {
            found = 0;
            chosenBy = 0;
            for (int place = 0; place < firstAtPlace.length; place++) {
                firstAtPlace[place] = Rank.NOWHERE;
            }
            for (int manner = 0; manner < Rank.MANNERS; manner++) {
                shape.form(scene, Rank.scaleOf(manner), Rank.turnsOf(manner), Rank.flipOf(manner));
                for (int y = 0; y < scene.height; y++) {
                    for (int x = 0; x < scene.width; x++) {
                        if (fit.weigh(field, shape, x, y)) {
                            int place = y * MOST_SIDE + x;
                            enter(Rank.of(fit, manner, place), place);
                        }
                    }
                }
            }
        }

        private void enter(int rank, int place) {
            firstAtPlace[place] = Math.min(firstAtPlace[place], rank);
            if (found == MOST_BEST && rank > first[MOST_BEST - 1]) {
                return;
            }
            int at = Math.min(found, MOST_BEST - 1);
            while (at > 0 && first[at - 1] > rank) {
                first[at] = first[at - 1];
                at--;
            }
            first[at] = rank;
            found = Math.min(found + 1, MOST_BEST);
        }

        void chooseApart(int spacing) {
            if (chosenBy == spacing) {
                return;
            }
            chosenBy = spacing;
            chosenCount = 0;
            for (int place = 0; place < open.length; place++) {
                open[place] = true;
            }
            for (int i = 0; i < MOST_BEST; i++) {
                int rank = firstOpen();
                if (rank == Rank.NOWHERE) {
                    return;
                }
                chosen[i] = rank;
                chosenCount++;
                closeAround(Rank.part(rank, 0), Rank.part(rank, 1), spacing);
            }
        }

        private int firstOpen() {
            int rank = Rank.NOWHERE;
            for (int place = 0; place < open.length; place++) {
                if (open[place]) {
                    rank = Math.min(rank, firstAtPlace[place]);
                }
            }
            return rank;
        }

        private void closeAround(int x, int y, int spacing) {
            for (int place = 0; place < open.length; place++) {
                int across = Math.abs(place % MOST_SIDE - x);
                int along = Math.abs(place / MOST_SIDE - y);
                if (across + along < spacing) {
                    open[place] = false;
                }
            }
        }
    }
}
