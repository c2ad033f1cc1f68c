import java.util.ArrayList;
import java.util.Arrays;
import java.util.List;

/**
 * A run of calls on a new object for one sentence of the document, each call with the answer that is due. Of each
 * call that only asks, and of each that is refused, it is seen to as well that nothing changes by it: of two new
 * objects that go the same way one leaves that call out, and both must answer alike all that can be asked then.
 */
final class Run {
    static final int BAD = -1, NO = -2, FULL = -3, NONE = -4;
    private static final int MOST_CALLS = 512;
    private static final List<String> CHANGING =
            List.of("write", "wipe", "lay", "edge", "dot", "drop", "measure", "undo", "turn", "take", "takes");

    private record Call(int number, int[] with) {
    }

    private final Due due;
    private final String sentence;
    private final Calls stencil = new Calls(new EdgeStencil());
    private final List<Call> gone = new ArrayList<>();

    Run(Due due, String sentence) {
        this.due = due;
        this.sentence = sentence;
    }

    /** Writes letters behind the text. */
    Run writes(String letters) {
        int write = Arrays.asList(Calls.NAMES).indexOf("write");
        for (int i = 0; i < letters.length(); i++) {
            answer(new Call(write, new int[] {letters.charAt(i)}));
        }
        return this;
    }

    /** Writes a text and lays it, which must go. */
    Run laid(String text) {
        writes(text);
        int answer = answer(parse("lay"));
        due.holds(sentence + " | lay of " + text, answer >= 0);
        return this;
    }

    /** Calls that are made as they stand, whatever they answer, for what comes behind them. */
    Run then(String... calls) {
        for (String call : calls) {
            answer(parse(call));
        }
        return this;
    }

    /** A call, as "edge 4 0 1" (HIGH and LOW are the greatest and least int), and its answer. */
    Run is(String call, int want) {
        Call parsed = parse(call);
        int before = gone.size();
        int got = answer(parsed);
        due.is(sentence + " | " + call, want, got);
        boolean changing = CHANGING.contains(Calls.NAMES[parsed.number]) && got >= 0;
        if (!changing || call.startsWith("takes") && got == 0) {
            due.holds(sentence + " | nothing changes by " + call, answersAfter(before, true).equals(
                    answersAfter(before, false)));
        }
        return this;
    }

    /** The same answer for each of several calls. */
    Run are(int want, String... calls) {
        for (String call : calls) {
            is(call, want);
        }
        return this;
    }

    /** The answers of one call whose last number is 0, 1, 2, .. */
    Run row(String call, int... want) {
        for (int last = 0; last < want.length; last++) {
            is(call + " " + last, want[last]);
        }
        return this;
    }

    private int answer(Call call) {
        gone.add(call);
        due.holds(sentence + " | within its calls", gone.size() <= MOST_CALLS);
        return stencil.call(call.number, call.with);
    }

    private static Call parse(String call) {
        String[] words = call.split(" ");
        int[] with = new int[words.length - 1];
        for (int i = 0; i < with.length; i++) {
            String word = words[i + 1];
            with[i] = word.equals("HIGH") ? Integer.MAX_VALUE
                    : word.equals("LOW") ? Integer.MIN_VALUE : Integer.parseInt(word);
        }
        return new Call(Arrays.asList(Calls.NAMES).indexOf(words[0]), with);
    }

    private List<Integer> answersAfter(int calls, boolean andTheNext) {
        Calls fresh = new Calls(new EdgeStencil());
        for (Call call : gone.subList(0, andTheNext ? calls + 1 : calls)) {
            fresh.call(call.number, call.with);
        }
        return new Questions(fresh, MOST_CALLS - calls - 1).all();
    }

    /** All that an object can be asked, as far as its calls reach; it is used up by that. */
    private static final class Questions {
        private final Calls asked;
        private final List<Integer> answers = new ArrayList<>();
        private int left;

        Questions(Calls asked, int left) {
            this.asked = asked;
            this.left = left;
        }

        List<Integer> all() {
            scene();
            ledger();
            for (int i = 0; i < 14; i++) {
                ask("best " + i / 7 + " " + i % 7);
            }
            ask("spread 2 1 0");
            ask("fault");
            for (int undone = 0; undone < 7; undone++) {
                ask("undo");
                ask("count 2");
                ask("count 3");
                ask("count 4");
                ask("count 5");
                ask("ledger -1 0");
                ask("best 0 5");
            }
            scene();
            ask("takes 0 990");
            ledger();
            ask("lay");
            scene();
            ask("wipe");
            return answers;
        }

        private void scene() {
            for (int what = 0; what <= 10; what++) {
                ask("count " + what);
            }
            int w = ask("count 0");
            int h = ask("count 1");
            int dots = ask("count 3");
            for (int d = 0; d < dots; d++) {
                ask("lies " + d + " 0");
                ask("lies " + d + " 1");
            }
            for (int cell = 0; cell < w * h; cell++) {
                ask("cell " + cell % w + " " + cell / w);
            }
            ask("far 0 0");
            ask("far " + (w - 1) + " " + (h - 1));
        }

        private void ledger() {
            int entries = ask("ledger -1 0");
            for (int i = 0; i < entries * 7; i++) {
                ask("ledger " + i / 7 + " " + i % 7);
            }
        }

        private int ask(String question) {
            if (left == 0) {
                return 0;
            }
            left--;
            Call call = parse(question);
            int answer = asked.call(call.number, call.with);
            answers.add(answer);
            return answer;
        }
    }
}
