import java.util.ArrayDeque;
import java.util.ArrayList;
import java.util.Comparator;
import java.util.Deque;
import java.util.List;
import java.util.TreeSet;
import java.util.regex.Matcher;
import java.util.regex.Pattern;

/**
 * The document once more, word by word and without any regard for speed or room, to compare answers with. An edge
 * is kept as 100 y + x, a pose as the row s, t, f, y, x, ill, worst.
 */
final class Model {
    static final int BAD = -1, NO = -2, FULL = -3, NONE = -4;
    private static final String AT_FIRST = "gaa;r..........;r..####....;r..#.......;r..#....#..;r.......#..;"
            + "r....####..;r..........;r.#........;r.#........;r.####.....;dff;dgf;dhf;dif;dfe;dfd;m120;";
    private static final Pattern ITEM =
            Pattern.compile("g([4-9ab])([4-9ab]);|r([#.]+);|d([a-k])([a-k]);|m([0-2])(\\d\\d);");

    private record State(int w, int h, TreeSet<Integer> edges, List<List<Integer>> dots, int m, int cap,
            List<int[]> ledger) {
        State copy() {
            return new State(w, h, new TreeSet<>(edges), new ArrayList<>(dots), m, cap, new ArrayList<>(ledger));
        }

        State with(int otherM, int otherCap) {
            return new State(w, h, edges, dots, otherM, otherCap, ledger);
        }
    }

    private String text = "";
    private State now;
    private final Deque<State> before = new ArrayDeque<>();
    private int s = 2, t = 0, f = 0;
    private List<int[]> ranked = null;

    Model() {
        now = parse(AT_FIRST);
    }

    // The place of the fault, or NONE; what was told is put into the lists.
    private static int check(String told, List<Matcher> items) {
        int place = 0;
        int rows = 0;
        int h = 0;
        int w = 0;
        List<String> dots = new ArrayList<>();
        while (place < told.length()) {
            Matcher item = ITEM.matcher(told).region(place, told.length());
            if (!item.lookingAt() || (place == 0) != (item.group(1) != null)) {
                return place;
            }
            String all = item.group();
            if (place == 0) {
                w = Integer.parseInt(item.group(1), 12);
                h = Integer.parseInt(item.group(2), 12);
            }
            if (item.group(3) != null && (item.group(3).length() != w || ++rows > h)) {
                return place;
            }
            if (item.group(4) != null) {
                if (dots.contains(all) || dots.size() == 10) {
                    return place;
                }
                dots.add(all);
            }
            if (item.group(7) != null && item.group(7).equals("00")) {
                return place;
            }
            items.add(item);
            place = item.end();
        }
        return NONE;
    }

    private static State parse(String told) {
        List<Matcher> items = new ArrayList<>();
        if (check(told, items) != NONE || items.isEmpty()) {
            return null;
        }
        int w = Integer.parseInt(items.get(0).group(1), 12);
        int h = Integer.parseInt(items.get(0).group(2), 12);
        State state = new State(w, h, new TreeSet<>(), new ArrayList<>(), 0, 99, new ArrayList<>());
        int row = 0;
        for (Matcher item : items) {
            if (item.group(3) != null) {
                for (int x = 0; x < w; x++) {
                    if (item.group(3).charAt(x) == '#') {
                        state.edges.add(100 * row + x);
                    }
                }
                row++;
            }
            if (item.group(4) != null) {
                state.dots.add(List.of(item.group(4).charAt(0) - 'f', item.group(5).charAt(0) - 'f'));
            }
            if (item.group(6) != null) {
                state = state.with(Integer.parseInt(item.group(6)), Integer.parseInt(item.group(7)));
            }
        }
        return state.dots.isEmpty() ? null : state;
    }

    int write(int letter) {
        if (letter < 32 || letter > 126) {
            return BAD;
        }
        if (text.length() == 200) {
            return FULL;
        }
        text += (char) letter;
        return text.length();
    }

    int wipe() {
        int was = text.length();
        text = "";
        return was;
    }

    int fault() {
        return check(text, new ArrayList<>());
    }

    int lay() {
        State laid = parse(text);
        if (laid == null) {
            return NO;
        }
        now = laid;
        before.clear();
        turn(2, 0, 0);
        ranked = null;
        return now.edges.size();
    }

    private void change(State next) {
        before.push(now);
        if (before.size() > 6) {
            before.removeLast();
        }
        now = next;
        ranked = null;
    }

    private boolean isCell(int x, int y) {
        return x >= 0 && y >= 0 && x < now.w && y < now.h;
    }

    int edge(int x, int y, int is) {
        if (!isCell(x, y) || is != 0 && is != 1) {
            return BAD;
        }
        State next = now.copy();
        if (!(is == 1 ? next.edges.add(100 * y + x) : next.edges.remove(100 * y + x))) {
            return NO;
        }
        change(next);
        return now.edges.size();
    }

    int dot(int x, int y) {
        if (x < -5 || x > 5 || y < -5 || y > 5) {
            return BAD;
        }
        if (now.dots.contains(List.of(x, y))) {
            return NO;
        }
        if (now.dots.size() == 10) {
            return FULL;
        }
        State next = now.copy();
        next.dots.add(List.of(x, y));
        change(next);
        return now.dots.size() - 1;
    }

    int drop(int d) {
        if (d < 0 || d >= now.dots.size()) {
            return BAD;
        }
        if (now.dots.size() == 1) {
            return NO;
        }
        State next = now.copy();
        next.dots.remove(d);
        change(next);
        return now.dots.size();
    }

    int measure(int m, int cap) {
        if (m < 0 || m > 2 || cap < 1 || cap > 99) {
            return BAD;
        }
        if (m == now.m && cap == now.cap) {
            return NO;
        }
        int was = 100 * now.m + now.cap;
        change(now.copy().with(m, cap));
        return was;
    }

    int undo() {
        if (before.isEmpty()) {
            return NO;
        }
        now = before.pop();
        ranked = null;
        return before.size();
    }

    int cell(int x, int y) {
        return !isCell(x, y) ? BAD : now.edges.contains(100 * y + x) ? 1 : 0;
    }

    private int apart(int x, int y, int edge) {
        int dx = Math.abs(x - edge % 100);
        int dy = Math.abs(y - edge / 100);
        return now.m == 0 ? dx + dy : now.m == 1 ? Math.max(dx, dy) : 3 * Math.max(dx, dy) + Math.min(dx, dy);
    }

    int far(int x, int y) {
        return !isCell(x, y) ? BAD : now.edges.stream().mapToInt(e -> apart(x, y, e)).reduce(now.cap, Math::min);
    }

    int nearest(int x, int y) {
        if (!isCell(x, y)) {
            return BAD;
        }
        return now.edges.stream().min(Comparator.<Integer>comparingInt(e -> apart(x, y, e)).thenComparingInt(e -> e))
                .orElse(NONE);
    }

    int rings(int n) {
        if (n < 0 || n > 99) {
            return BAD;
        }
        int cells = 0;
        for (int cell = 0; cell < now.w * now.h; cell++) {
            cells += far(cell % now.w, cell / now.w) == n ? 1 : 0;
        }
        return cells;
    }

    int turn(int otherS, int otherT, int otherF) {
        if (otherS < 2 || otherS > 4 || otherT < 0 || otherT > 3 || otherF < 0 || otherF > 1) {
            return BAD;
        }
        s = otherS;
        t = otherT;
        f = otherF;
        return 0;
    }

    private int[] offset(int d, int[] pose) {
        int x = now.dots.get(d).get(0) * (pose[2] == 1 ? -1 : 1);
        int y = now.dots.get(d).get(1);
        int[] turned = switch (pose[1]) {
            case 0 -> new int[] {x, y};
            case 1 -> new int[] {-y, x};
            case 2 -> new int[] {-x, -y};
            default -> new int[] {y, -x};
        };
        return new int[] {(int) Math.floor((turned[0] * pose[0] + 1) / 2.0),
            (int) Math.floor((turned[1] * pose[0] + 1) / 2.0)};
    }

    int lies(int d, int what) {
        if (d < 0 || d >= now.dots.size() || what < 0 || what > 1) {
            return BAD;
        }
        return offset(d, new int[] {s, t, f})[what] + 100;
    }

    // The cells of the dots, or null if the pose does not fit.
    private List<int[]> cells(int[] pose) {
        List<int[]> cells = new ArrayList<>();
        for (int d = 0; d < now.dots.size(); d++) {
            int[] o = offset(d, pose);
            if (!isCell(pose[4] + o[0], pose[3] + o[1])) {
                return null;
            }
            cells.add(new int[] {pose[4] + o[0], pose[3] + o[1]});
        }
        return cells;
    }

    int pose(int x, int y, int what) {
        if (!isCell(x, y) || what < 0 || what > 3) {
            return BAD;
        }
        List<int[]> cells = cells(new int[] {s, t, f, y, x});
        if (cells == null) {
            return NONE;
        }
        List<Integer> fars = cells.stream().map(c -> far(c[0], c[1])).toList();
        int worst = fars.stream().max(Integer::compare).orElseThrow();
        return switch (what) {
            case 0 -> fars.stream().mapToInt(i -> i).sum();
            case 1 -> worst;
            case 2 -> fars.indexOf(worst);
            default -> (int) cells.stream().filter(c -> cell(c[0], c[1]) == 1).count();
        };
    }

    int fits() {
        int places = 0;
        for (int cell = 0; cell < now.w * now.h; cell++) {
            places += cells(new int[] {s, t, f, cell / now.w, cell % now.w}) != null ? 1 : 0;
        }
        return places;
    }

    int bound(int x, int y, int n) {
        if (!isCell(x, y) || n < 1 || n > 11) {
            return BAD;
        }
        int sum = 0;
        for (int d = 0; d < now.dots.size(); d++) {
            int[] o = offset(d, new int[] {s, t, f});
            int least = Integer.MAX_VALUE;
            for (int py = y; py < y + n; py++) {
                for (int px = x; px < x + n; px++) {
                    if (isCell(px, py) && isCell(px + o[0], py + o[1])) {
                        least = Math.min(least, far(px + o[0], py + o[1]));
                    }
                }
            }
            if (least == Integer.MAX_VALUE) {
                return NONE;
            }
            sum += least;
        }
        return sum;
    }

    private List<Integer> told(List<int[]> cells, int reach) {
        return now.edges.stream().filter(e -> cells.stream().anyMatch(c -> apart(c[0], c[1], e) <= reach)).toList();
    }

    int tells(int x, int y, int reach) {
        if (!isCell(x, y) || reach < 0 || reach > 3) {
            return BAD;
        }
        List<int[]> cells = cells(new int[] {s, t, f, y, x});
        return cells == null ? NONE : told(cells, reach).size();
    }

    private List<int[]> ranked() {
        if (ranked != null) {
            return ranked;
        }
        ranked = new ArrayList<>();
        int[][] fars = new int[now.h][now.w];
        for (int cell = 0; cell < now.w * now.h; cell++) {
            fars[cell / now.w][cell % now.w] = far(cell % now.w, cell / now.w);
        }
        for (int ps = 2; ps <= 4; ps++) {
            for (int pt = 0; pt < 4; pt++) {
                for (int pf = 0; pf < 2; pf++) {
                    for (int cell = 0; cell < now.w * now.h; cell++) {
                        int[] pose = {ps, pt, pf, cell / now.w, cell % now.w, 0, 0};
                        List<int[]> cells = cells(pose);
                        if (cells != null) {
                            for (int[] c : cells) {
                                pose[5] += fars[c[1]][c[0]];
                                pose[6] = Math.max(pose[6], fars[c[1]][c[0]]);
                            }
                            ranked.add(pose);
                        }
                    }
                }
            }
        }
        // the poses were made in the order of s, t, f, y, x, and this sort keeps equals in their order
        ranked.sort(Comparator.<int[]>comparingInt(p -> p[5]).thenComparingInt(p -> p[6]));
        return ranked;
    }

    private static int part(List<int[]> poses, int i, int what) {
        int[] parts = {4, 3, 0, 1, 2, 5, 6};
        if (i < -1 || what < 0 || what > 6) {
            return BAD;
        }
        return i == -1 ? poses.size() : i >= poses.size() ? NONE : poses.get(i)[parts[what]];
    }

    int best(int i, int what) {
        return part(ranked().subList(0, Math.min(10, ranked().size())), i, what);
    }

    int spread(int a, int i, int what) {
        if (a < 1 || a > 20) {
            return BAD;
        }
        List<int[]> chosen = new ArrayList<>();
        for (int[] pose : ranked()) {
            boolean apart = chosen.stream().allMatch(c -> Math.abs(c[3] - pose[3]) + Math.abs(c[4] - pose[4]) >= a);
            if (apart && chosen.size() < 10) {
                chosen.add(pose);
            }
        }
        return part(chosen, i, what);
    }

    int take(int reach, int ill) {
        if (reach < 0 || reach > 3 || ill < 0 || ill > 990) {
            return BAD;
        }
        if (now.ledger.size() == 8) {
            return FULL;
        }
        if (ranked().isEmpty() || ranked().get(0)[5] > ill) {
            return NO;
        }
        int[] first = ranked().get(0);
        List<Integer> gone = told(cells(first), reach);
        if (gone.isEmpty()) {
            return NO;
        }
        int[] entry = first.clone();
        entry[6] = gone.size();
        State next = now.copy();
        next.edges.removeAll(gone);
        next.ledger.add(entry);
        change(next);
        return gone.size();
    }

    int takes(int reach, int ill) {
        if (reach < 0 || reach > 3 || ill < 0 || ill > 990) {
            return BAD;
        }
        int times = 0;
        while (take(reach, ill) > 0) {
            times++;
        }
        return times;
    }

    int ledger(int i, int what) {
        return part(now.ledger, i, what);
    }

    int count(int what) {
        int[] counts = {now.w, now.h, now.edges.size(), now.dots.size(), now.m, now.cap, before.size(),
            text.length(), s, t, f};
        return what < 0 || what >= counts.length ? BAD : counts[what];
    }
}
