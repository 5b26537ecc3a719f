import java.util.List;

/**
 * "Calls answer the first code that fits, by their order; then nothing changes (but for THE TEXT)": each
 * refused call answers its code, and all else is as it was. So is all behind a call that only asks.
 */
public final class RefusalTest extends Checks {
    private static final int[] NO_CELLS = {-1, 256, Integer.MIN_VALUE, Integer.MAX_VALUE};
    private static final int[] NO_SHEETS = {-1, 4, Integer.MIN_VALUE, Integer.MAX_VALUE};
    private static final String FORTY_ONE = "1" + times(20, "+1");

    private final Script book;
    private final List<Long> before;
    private final List<Long> beforeWithoutText;

    private RefusalTest(String name, Script book) {
        super("of refusals, " + name);
        this.book = book;
        before = book.answers();
        beforeWithoutText = book.copy().then(x -> x.wipe()).answers();
    }

    public static void main(String[] args) {
        noSuchCell(new RefusalTest("2 to 25, a new book", new Script()));
        noSuchCell(new RefusalTest("2 to 25, a book at work", atWork()));
        noSuchCell(new RefusalTest("2 to 25, a full book", full()));
        new RefusalTest("2 type and 13 take, a full book", full()).noRoomForText();
        new RefusalTest("2 type, 233 bytes", new Script().text(times(233, "1"))).seven();
        new RefusalTest("5 number", atWork()).numbers();
        new RefusalTest("6 empty", atWork()).emptyAlready();
        new RefusalTest("7 formula", atWork()).formulas();
        new RefusalTest("8 function", atWork()).functions();
        new RefusalTest("9 constant", atWork()).constants();
        new RefusalTest("7 to 9, a full book", full()).noRoom();
        new RefusalTest("11 print", atWork()).noFormula();
        new RefusalTest("15 to 25, a new book", new Script()).asking();
        new RefusalTest("15 to 25, a book at work", atWork()).asking();
        new RefusalTest("17, 23 and 24: the order of codes", atWork()).orderOfCodes();
        end("RefusalTest");
    }

    /** A book with a cell in each state, and with things told since the latest recalculate(). */
    private static Script atWork() {
        Script s = new Script().then(x -> x.whole(0, 7)).then(x -> x.number(1, 25, 1)).then(x -> x.whole(2, -3));
        s.function("f(a)=a*a-2").function("g(a,b)=if(a<b,f(a),b)");
        s.constant(0, "k=3").constant(0, "l=k+f(k)").constant(1, "bad=1/0");
        s.formula(8, "Aa0+Ab0*k").formula(9, "Aa0/0").formula(10, "Ab1+1");
        s.formula(11, "Ae1").formula(12, "Ad1+Aa0").formula(13, "sum(Ae0:Ah0)+root(f,0,2)");
        s.formula(70, "1").formula(71, "Ba1").formula(135, "try(Ag1,1.5)");
        s.then(x -> x.recalculate());
        s.then(x -> x.whole(0, 8)).then(x -> x.recalculate());
        s.then(x -> x.whole(2, 1)).formula(14, "g(1,2)").formula(9, "Ac0").constant(2, "m=1").function("f(b)=b*b-3");
        s.formula(15, "1+").then(x -> x.print(8));
        return s.text(" Aa0 + 7");
    }

    /** A book in which there is no room for any thing more. */
    private static Script full() {
        Script s = new Script();
        for (int c = 0; c < 46; c++) {
            s.formula(c, "2");
        }
        s.formula(46, times(11, "99999999999999999+") + "1234567+12345678901").formula(47, "Aa0");
        for (char c = 'a'; c < 'i'; c++) {
            s.function(c + "(x)=x");
        }
        for (char c = 'a'; c < 'f'; c++) {
            s.constant(2, c + "=1");
        }
        for (int i = 0; i < 12; i++) {
            int v = i;
            s.then(x -> x.whole(60, v)).then(x -> x.recalculate());
        }
        return s.then(x -> x.print(46)).text("1 +" + times(236, " ") + "2");
    }

    private void unchanged(String what, Script after, List<Long> as) {
        List<Long> now = after.answers();
        checks++;
        if (!now.equals(as)) {
            wrong++;
            int at = 0;
            while (at < as.size() && now.get(at).equals(as.get(at))) {
                at++;
            }
            System.out.println("promise " + name + ": " + what + " changed answer " + at + " from " + as.get(at)
                + " to " + now.get(at));
        }
    }

    /** A call that is refused, and leaves all as it is. */
    private void refused(String what, Script.Call call, long code) {
        Script after = book.copy().then(call);
        due(what, after.lastAnswer(), code);
        due("fault() behind " + what, after.play().fault(), book.play().fault());
        unchanged(what, after, before);
    }

    /** A call that is refused, and takes THE TEXT. */
    private void refused(String text, Script.Call call, long code, int place) {
        Script after = book.copy().then(x -> x.wipe()).text(text).then(call);
        due(text, after.lastAnswer(), code);
        due("fault() behind " + text, after.play().fault(), place);
        unchanged(text, after, beforeWithoutText);
    }

    private static void noSuchCell(RefusalTest t) {
        for (int c : NO_CELLS) {
            String of = "(" + c + ")";
            t.refused("whole" + of, x -> x.whole(c, 5), -1);
            t.refused("number" + of, x -> x.number(c, 5, 0), -1);
            t.refused("number" + of + " with an e of 16", x -> x.number(c, 5, 16), -1);
            t.refused("empty" + of, x -> x.empty(c), -1);
            t.refused("formula" + of, x -> x.formula(c), -1);
            t.refused("print" + of, x -> x.print(c), -1);
            t.refused("state" + of, x -> x.state(c), -1);
            t.refused("value" + of, x -> x.value(c), 0);
            t.refused("failure" + of, x -> x.failure(c, 0), -3);
            t.refused("needs" + of, x -> x.needs(c, 0), -1);
            t.refused("neededBy" + of, x -> x.neededBy(c, 0), -1);
            t.refused("trace" + of, x -> x.trace(c, 0), -1);
            t.refused("old" + of, x -> x.old(1, c, 0), -1);
        }
        for (int s : NO_SHEETS) {
            t.refused("constant(" + s + ")", x -> x.constant(s), -1);
            t.refused("named(" + s + ")", x -> x.named(s, 0, 0), -1);
        }
    }

    private void noRoomForText() {
        due("bytes of THE TEXT", book.play().count(5), 240);
        due("bytes of OUT", book.play().count(6), 241);
        refused("type of one", x -> x.type(0x31), -2);
        refused("type of the highest one", x -> x.type(0x31L << 56), -2);
        refused("type of eight", x -> x.type(-1), -2);
        refused("type of the least LONG", x -> x.type(Long.MIN_VALUE), -2);
        refused("type of none", x -> x.type(0), 240);
        refused("take", x -> x.take(), -2);
    }

    private void seven() {
        refused("type of eight", x -> x.type(0x3131313131313131L), -2);
        due("type of seven", book.copy().then(x -> x.type(0x31313131313131L)).lastAnswer(), 240);
    }

    private void numbers() {
        for (int cell : new int[] {0, 1, 8, 11, 20, 255}) {
            for (int e : new int[] {-1, 16, Integer.MIN_VALUE, Integer.MAX_VALUE}) {
                refused("number(" + cell + ", 5, " + e + ")", x -> x.number(cell, 5, e), -2);
            }
        }
    }

    /** An empty() that answers 0 lets no cell be CHANGED, also if one needs what was EMPTY. */
    private void emptyAlready() {
        for (int cell : new int[] {4, 7, 63, 255}) {
            refused("empty(" + cell + ")", x -> x.empty(cell), 0);
        }
    }

    private void formulas() {
        for (int cell : new int[] {0, 8, 11, 14, 20, 70}) {
            refused("1+$", x -> x.formula(cell), -101, 2);
            refused("1+", x -> x.formula(cell), -102, 2);
            refused("", x -> x.formula(cell), -102, 0);
            refused(FORTY_ONE, x -> x.formula(cell), -103, 40);
            refused("f(zz)", x -> x.formula(cell), -104, 2);
            refused("sum(Ab0:Aa0)", x -> x.formula(cell), -104, 4);
        }
    }

    private void functions() {
        for (String name : new String[] {"f", "fresh"}) {
            int n = name.length();
            refused(name + "(a)=a+$", x -> x.function(), -101, n + 6);
            refused(name + "(a)=a+", x -> x.function(), -102, n + 6);
            refused(name + "(a)=" + FORTY_ONE, x -> x.function(), -103, n + 44);
            refused(name + "(a)=b", x -> x.function(), -104, n + 4);
            refused(name + "(a)=Aa0", x -> x.function(), -104, n + 4);
        }
        refused("f(a,b)=a", x -> x.function(), -105, 0);
        refused("g(a)=a", x -> x.function(), -105, 0);
        refused("fresh(a,a)=a", x -> x.function(), -105, 8);
    }

    private void constants() {
        for (int sheet = 0; sheet < 4; sheet++) {
            int s = sheet;
            refused("k=$", x -> x.constant(s), -101, 2);
            refused("k=1+", x -> x.constant(s), -102, 4);
            refused("k=" + FORTY_ONE, x -> x.constant(s), -103, 42);
            refused("k=k", x -> x.constant(s), -104, 2);
            refused("k=1+l", x -> x.constant(s), -104, 4);
            refused("k=Aa0", x -> x.constant(s), -104, 2);
        }
    }

    private void noRoom() {
        for (int cell : new int[] {48, 60, 255}) {
            refused("1", x -> x.formula(cell), -2, -1);
            refused("1+", x -> x.formula(cell), -102, 2);
            refused("zz", x -> x.formula(cell), -104, 0);
        }
        refused("more(x)=x", x -> x.function(), -2, -1);
        refused("more(x)=more(x)", x -> x.function(), -2, -1);
        refused("more(x)=y", x -> x.function(), -104, 8);
        refused("more(x,x)=x", x -> x.function(), -105, 7);
        refused("more=1", x -> x.function(), -102, 4);
        refused("more=1", x -> x.constant(2), -2, -1);
        refused("more=a+e", x -> x.constant(2), -2, -1);
        refused("more=", x -> x.constant(2), -102, 5);
        refused("more=more", x -> x.constant(2), -104, 5);
    }

    private void noFormula() {
        for (int cell : new int[] {0, 1, 3, 15, 255}) {
            refused("print(" + cell + ")", x -> x.print(cell), -3);
        }
    }

    /** What only asks changes nothing, whatever it is asked. */
    private void asking() {
        int[] some = {-1, 0, 1, 9, 70, 255, 256};
        Script after = book.copy();
        for (int i : some) {
            after.then(x -> x.sign(i)).then(x -> x.state(i)).then(x -> x.value(i)).then(x -> x.done(i));
            after.then(x -> x.fault()).then(x -> x.count(i));
            for (int k : new int[] {-1, 0, 3}) {
                after.then(x -> x.failure(i, k)).then(x -> x.needs(i, k)).then(x -> x.neededBy(i, k));
                after.then(x -> x.cycle(i, k)).then(x -> x.trace(i, k)).then(x -> x.named(k, i, 0));
                after.then(x -> x.old(1, i, k)).then(x -> x.old(k, i, 1));
            }
        }
        unchanged("asking", after, before);
        due("fault() behind asking", after.play().fault(), book.play().fault());
    }

    /** Where two codes fit, the first one by its place in the promise. */
    private void orderOfCodes() {
        refused("failure(256, 3)", x -> x.failure(256, 3), -3);
        refused("failure(0, 3)", x -> x.failure(0, 3), -2);
        refused("failure(0, -1)", x -> x.failure(0, -1), -2);
        refused("failure(0, 0)", x -> x.failure(0, 0), -1);
        refused("named(4, 0, 3)", x -> x.named(4, 0, 3), -1);
        refused("named(0, 2, 3)", x -> x.named(0, 2, 3), -1);
        refused("named(0, 1, 3)", x -> x.named(0, 1, 3), -2);
        refused("named(0, 1, -1)", x -> x.named(0, 1, -1), -2);
        refused("named(0, -1, 0)", x -> x.named(0, -1, 0), -1);
        refused("old(3, 256, 2)", x -> x.old(3, 256, 2), -1);
        refused("old(3, 0, 2)", x -> x.old(3, 0, 2), -2);
        refused("old(3, 0, -1)", x -> x.old(3, 0, -1), -2);
        refused("old(3, 0, 1)", x -> x.old(3, 0, 1), -3);
        refused("old(0, 0, 0)", x -> x.old(0, 0, 0), -3);
        refused("count(15)", x -> x.count(15), -1);
        refused("count(-1)", x -> x.count(-1), -1);
    }
}
