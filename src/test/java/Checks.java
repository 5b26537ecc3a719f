/** What the tests of the promises share: a book, and calls on it with the answers that are due. */
class Checks {
    static int wrong = 0;
    static int checks = 0;

    final String name;
    LoadBook x = new LoadBook();

    Checks(String name) {
        this.name = name;
    }

    static void end(String test) {
        System.out.println(test + ": " + checks + " checks, " + wrong + " wrong");
        if (wrong > 0) {
            System.exit(1);
        }
    }

    void due(String what, long got, long want) {
        checks++;
        if (got != want) {
            wrong++;
            System.out.println("promise " + name + ": " + what + " answered " + got + ", due is " + want);
        }
    }

    /** A text as the LONGS that type() takes. */
    static long[] packed(String text) {
        long[] all = new long[(text.length() + 7) / 8];
        for (int i = 0; i < text.length(); i++) {
            all[i / 8] |= (long) (text.charAt(i) & 255) << (8 * (i % 8));
        }
        return all;
    }

    void type(String text) {
        for (long bytes : packed(text)) {
            x.type(bytes);
        }
    }

    void formula(int cell, String text, int want) {
        type(text);
        due("formula(" + cell + ") of " + text, x.formula(cell), want);
    }

    /** Tells a FORMULA that has no FAULT. */
    void tell(int cell, String text) {
        type(text);
        int parts = x.formula(cell);
        due("formula(" + cell + ") of " + text + " is one", parts > 0 ? 1 : parts, 1);
    }

    void function(String text, int want) {
        type(text);
        due("function() of " + text, x.function(), want);
    }

    void constant(int sheet, String text, int want) {
        type(text);
        due("constant(" + sheet + ") of " + text, x.constant(sheet), want);
    }

    /** A FORMULA's FAULT and its place. */
    void bad(String text, int number, int place) {
        formula(255, text, -100 - number);
        due("fault() of " + text, x.fault(), place);
    }

    static String times(int n, String s) {
        return s.repeat(n);
    }

    /** Works a FORMULA out in a cell that nothing else uses. */
    void gives(String text, long want) {
        tell(255, text);
        x.recalculate();
        due("state of " + text, x.state(255), 1);
        due(text, x.value(255), want);
    }

    void gives(String text, double want) {
        tell(255, text);
        x.recalculate();
        due("state of " + text, x.state(255), 2);
        due(text, x.value(255), Double.doubleToRawLongBits(want));
    }

    void fails(String text, int kind) {
        tell(255, text);
        x.recalculate();
        due("state of " + text, x.state(255), 3);
        due("kind of " + text, x.failure(255, 0), kind);
        due("first cell of " + text, x.failure(255, 1), 255);
        due("cause of " + text, x.failure(255, 2), 0);
    }

    void broken(int cell, int state, int kind, int first, int cause) {
        due("state(" + cell + ")", x.state(cell), state);
        due("value(" + cell + ")", x.value(cell), 0);
        due("failure(" + cell + ", 0)", x.failure(cell, 0), kind);
        due("failure(" + cell + ", 1)", x.failure(cell, 1), first);
        due("failure(" + cell + ", 2)", x.failure(cell, 2), cause);
    }

    void doneAre(int... want) {
        for (int i = 0; i < want.length; i++) {
            due("done(" + i + ")", x.done(i), want[i]);
        }
        due("done(" + want.length + ")", x.done(want.length), LoadBook.NONE);
        due("count(3)", x.count(3), want.length);
    }

    void readsAre(int cell, int... want) {
        for (int i = 0; i < want.length; i++) {
            due("trace(" + cell + ", " + i + ")", x.trace(cell, i), want[i]);
        }
        due("trace(" + cell + ", " + want.length + ")", x.trace(cell, want.length), LoadBook.NONE);
    }

    void printed(String text, String want) {
        tell(255, text);
        due("print of " + text, x.print(255), want.length());
        StringBuilder got = new StringBuilder();
        for (int i = 0; x.sign(i) >= 0; i++) {
            got.append((char) x.sign(i));
        }
        due("print of " + text + " is " + got + ", due is " + want, got.toString().equals(want) ? 1 : 0, 1);
    }
}
