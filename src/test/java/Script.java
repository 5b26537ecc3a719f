import java.util.ArrayList;
import java.util.List;

/**
 * Calls that make a book, again and again the same one, so that all it answers can be asked of as many
 * books as that takes: no book is used for more than the 512 calls that the document speaks of.
 */
final class Script {
    private static final int CALLS = 512;

    interface Call {
        long on(LoadBook x);
    }

    private final List<Call> calls = new ArrayList<>();

    Script then(Call call) {
        calls.add(call);
        return this;
    }

    Script copy() {
        Script other = new Script();
        other.calls.addAll(calls);
        return other;
    }

    Script text(String text) {
        for (long bytes : Checks.packed(text)) {
            then(x -> x.type(bytes));
        }
        return this;
    }

    Script formula(int cell, String text) {
        return text(text).then(x -> x.formula(cell));
    }

    Script function(String text) {
        return text(text).then(x -> x.function());
    }

    Script constant(int sheet, String text) {
        return text(text).then(x -> x.constant(sheet));
    }

    int size() {
        return calls.size();
    }

    LoadBook play() {
        LoadBook x = new LoadBook();
        for (Call call : calls) {
            call.on(x);
        }
        return x;
    }

    /** What the last call of this script answers. */
    long lastAnswer() {
        LoadBook x = new LoadBook();
        long answer = 0;
        for (Call call : calls) {
            answer = call.on(x);
        }
        return answer;
    }

    /**
     * All that the book answers now, behind a recalculate() (so what is CHANGED shows too), and when
     * what THE TEXT is becomes a FORMULA. Only fault() is left out.
     */
    List<Long> answers() {
        List<Long> all = new ArrayList<>();
        ask(questions(), all);
        copy().then(x -> x.recalculate()).ask(questions(), all);
        all.addAll(textAnswers());
        return all;
    }

    private void ask(List<Call> questions, List<Long> into) {
        int room = CALLS - size();
        if (room < 20) {
            throw new IllegalStateException("a script of " + size() + " calls leaves no room to ask");
        }
        LoadBook x = null;
        for (int i = 0; i < questions.size(); i++) {
            if (i % room == 0) {
                x = play();
            }
            into.add(questions.get(i).on(x));
        }
    }

    /** THE TEXT itself is not told by any call: its FORMULA, or its FAULT's place, stands for it. */
    private List<Long> textAnswers() {
        List<Long> all = new ArrayList<>();
        for (int cell : new int[] {0, 127, 255}) {
            LoadBook x = play();
            all.add((long) x.formula(cell));
            all.add((long) x.fault());
            all.add((long) x.print(cell));
            for (int i = 0; i < 100; i++) {
                all.add((long) x.sign(i));
            }
        }
        return all;
    }

    private static List<Call> questions() {
        List<Call> all = new ArrayList<>();
        for (int i = 0; i < 15; i++) {
            int what = i;
            all.add(x -> x.count(what));
        }
        for (int i = 0; i < 256; i++) {
            askOfCell(all, i);
        }
        for (int i = 0; i < 401; i++) {
            int k = i;
            all.add(x -> x.sign(k));
        }
        for (int i = 0; i < 49; i++) {
            int k = i;
            all.add(x -> x.done(k));
            all.add(x -> x.cycle(k, 0));
            all.add(x -> x.cycle(0, k));
        }
        askOfSheets(all);
        askOfEditions(all);
        return all;
    }

    private static void askOfCell(List<Call> all, int cell) {
        all.add(x -> x.state(cell));
        all.add(x -> x.value(cell));
        for (int i = 0; i < 3; i++) {
            int k = i;
            all.add(x -> x.failure(cell, k));
            all.add(x -> x.needs(cell, k));
            all.add(x -> x.neededBy(cell, k));
            all.add(x -> x.trace(cell, k));
        }
        all.add(x -> x.trace(cell, 23));
    }

    private static void askOfSheets(List<Call> all) {
        for (int i = 0; i < 60; i++) {
            int sheet = i / 15;
            int number = i / 3 % 5;
            int what = i % 3;
            all.add(x -> x.named(sheet, number, what));
        }
    }

    private static void askOfEditions(List<Call> all) {
        for (int i = 0; i < 13; i++) {
            int back = i;
            for (int c = 0; c < 256; c += 17) {
                int cell = c;
                all.add(x -> x.old(back, cell, 0));
                all.add(x -> x.old(back, cell, 1));
            }
        }
    }
}
