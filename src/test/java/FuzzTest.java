import java.util.Random;

/** Runs of random calls, the same ones every time, held against Model answer by answer. */
public final class FuzzTest {
    private static final int RUNS = Integer.getInteger("runs", 2500);
    private static final long SEED = Long.getLong("seed", 1);
    private static final String[] NAMES = {"a", "b", "c", "x", "draft", "longname", "f", "g"};
    private static final String[] FUNCS = {"f", "g", "h", "trim", "a", "heel", "k", "m", "n"};

    /** Texts that come where random ones seldom do: roots, deep and long work, great and tiny DOUBLES. */
    private static final String[] GIVEN_FUNCTIONS = {
        "f(a)=a*a-2.0", "f(a)=a*a*a-a-1", "f(x)=if(x<0.0,-1,1)", "f(a)=(a-3.25)*1000000",
        "g(a)=if(a<1,0,g(a-1)+g(a-2)+1)", "g(a)=if(a<=0,0,g(a-1)+1)", "g(a)=g(a+1)", "g(a)=try(g(a+1),a)",
        "g(a)=root(f,a,100)", "g(a)=try(try(try(g(a+1),1/0),a%0),a)", "g(a)=g(g(a-1))", "g(x)=1/x+f(x)",
        "h(a)=a*a*a*a*a*a*a*a*a*a*a", "h(a)=1.0/a/a/a/a/a/a/a/a/a/a/a", "h(a)=root(g,-a,a)", "h(a)=h(-a)+1.5",
        "h(a)=f(a)+root(f,0,a)", "trim(a,b)=a*b-b", "trim(a,b)=if(a<b,trim(a+1,b),a)", "a(a,b,c)=a-b*c",
        "a(a,b,c)=if(a,a(a-1,c,b),b-c)", "heel(a)=f(a)", "k(a)=heel(a)", "m(a)=k(a)/3", "n(a)=a",
    };
    private static final String[] GIVEN_CONSTANTS = {
        "a=1.5", "a=3", "b=a*2", "b=f(1.5)", "b=g(4)", "c=1/0", "c=root(f,0.0,2)", "c=g(99)", "c=h(900000000000)",
        "x=a+b", "x=try(1%0,b)", "draft=7", "longname=h(0.000001)", "f=h(h(12))", "g=1-1",
    };
    private static final String[] GIVEN_FORMULAS = {
        "root(f,0,2)", "root(f,-1.5,9)", "try(g(25),0-1)", "g(19)", "g(20)", "g(21)", "g(8)", "g(30)", "try(g(30),5)",
        "h(Aa0)", "h(h(Aa0))", "1.0/h(Aa0)", "h(Aa0)%Ab0", "h(Aa0)%(1.0/h(Ab0))", "(1.0/h(Aa0))%(1.0/h(Ab0*3.0))",
        "h(Aa1)*h(Aa0)", "-h(Aa0)-h(Aa0)*9", "sum(Aa0:Ah7)+sum(Aa0:Ah7)", "line(Aa0,Aa0:Ac0,Aa1:Ac1)",
        "line(Ab0,Aa0:Ad0,Aa1:Ad1)", "area(Aa0:Ah0,Aa1:Ah1)", "area(Aa0:Ac0,Aa2:Ac2)", "cut(h(Aa0))",
        "sum(Aa0:Ah3)", "least(Aa0:Ah3)", "most(Aa0:Ah3)", "count(Aa0:Ah7)", "at(Aa0:Ac2,Aa0%9)", "at(Aa0:Ac2,8)",
        "if(Aa0<Ab0,Ac0,Aa1)", "root(h,-Aa0,Ab0)", "root(n,0.0-h(Aa0),h(Aa0))", "try(Aa0%0,Ab0)%0.75",
        "line(h(1.5),Aa0:Ab1,Ac0:Ad1)", "area(Aa0:Ab0,Aa1:Ab2)", "line(1,Aa0:Aa0,Ab0:Ab0)", "a(Aa0,Ab0,Ac0)",
        "trim(Aa0,Ab0)", "f(Aa0)+m(Ab0)", "a+b", "draft*longname", "x", "g(Aa0)+try(g(Ab0),1)", "-(-Aa0*0.0)",
        "try(try(g(99),sum(Aa0:Ah7)),7)", "sum(Ba0:Bh7)", "try(Ba0,Ca0)", "Aa0*1.0", "(-Aa0)%7.5", "real(Aa0)/Ab0",
    };
    private final Random random;
    private final LoadBook book = new LoadBook();
    private final Model model = new Model();
    private final StringBuilder log = new StringBuilder();
    private final int span;
    /** How many of a hundred texts are given ones. */
    private final int given;
    private int calls;
    private int wrong;

    private FuzzTest(long seed) {
        random = new Random(seed);
        span = random.nextInt(3) == 0 ? 256 : random.nextBoolean() ? 12 : 30;
        given = random.nextInt(2) == 0 ? 0 : 20 + random.nextInt(60);
    }

    public static void main(String[] args) {
        int wrongRuns = 0;
        for (int run = 0; run < RUNS && wrongRuns < 5; run++) {
            FuzzTest one = new FuzzTest(SEED * 1000003 + run);
            one.run();
            if (one.wrong > 0) {
                wrongRuns++;
                System.out.println("run " + run + " of seed " + SEED + ":\n" + one.log);
            }
        }
        System.out.println("FuzzTest: " + RUNS + " runs, " + wrongRuns + " with wrong answers");
        if (wrongRuns > 0) {
            System.exit(1);
        }
    }

    private boolean due(String call, long got, long want) {
        calls++;
        log.append(call).append(" = ").append(got).append('\n');
        if (got != want) {
            wrong++;
            log.append("  due is ").append(want).append('\n');
        }
        return got == want;
    }

    private void run() {
        try {
            if (given > 0) {
                fillCells();
            }
            while (calls < 480 && wrong == 0) {
                turn();
            }
        } catch (RuntimeException | StackOverflowError e) {
            wrong++;
            log.append("  threw ").append(e).append('\n');
            for (StackTraceElement s : e.getStackTrace()) {
                if (log.length() < 20000) {
                    log.append("    ").append(s).append('\n');
                }
            }
        }
    }

    private void fillCells() {
        boolean rising = pick(2) == 0;
        long v = pick(5) - 2;
        for (int c = 0; c < 24 + pick(40); c++) {
            v = rising ? v + 1 + pick(9) : pick(1000) - 300;
            int e = pick(3) == 0 ? pick(3) : 0;
            due("number(" + c + ", " + v + ", " + e + ")", book.number(c, v, e), model.number(c, v, e));
        }
        calls = 0;
    }

    private int pick(int n) {
        return random.nextInt(n);
    }

    private int cell() {
        if (pick(60) == 0) {
            return pick(2) == 0 ? -1 : 256;
        }
        int c = pick(span);
        return span == 256 ? c : c / 3 * 8 % 64 + c % 3 + (pick(6) == 0 ? 64 : 0);
    }

    private void turn() {
        int t = pick(100);
        if (t < 30) {
            tellFormula();
        } else if (t < 38) {
            tellFunction();
        } else if (t < 45) {
            tellConstant();
        } else if (t < 60) {
            tellNumber();
        } else if (t < 64) {
            int c = cell();
            due("empty(" + c + ")", book.empty(c), model.empty(c));
        } else if (t < 84) {
            due("recalculate()", book.recalculate(), model.recalculate());
            look();
        } else if (t < 92) {
            askAnything();
        } else {
            printAndTake();
        }
    }

    private void tellNumber() {
        int c = cell();
        long v;
        switch (pick(6)) {
            case 0: v = 0; break;
            case 1: v = random.nextLong(); break;
            case 2: v = pick(2) == 0 ? Long.MIN_VALUE : Long.MAX_VALUE; break;
            case 3: v = -1 - pick(5); break;
            default: v = pick(40);
        }
        if (pick(2) == 0) {
            due("whole(" + c + ", " + v + ")", book.whole(c, v), model.whole(c, v));
        } else {
            int e = pick(40) == 0 ? 16 : pick(40) == 0 ? -1 : pick(16);
            due("number(" + c + ", " + v + ", " + e + ")", book.number(c, v, e), model.number(c, v, e));
        }
    }

    private void type(String text) {
        int i = 0;
        while (i < text.length()) {
            long bytes = 0;
            int n = 0;
            for (int k = 0; k < 8 && i < text.length(); k++) {
                if (pick(50) == 0) {
                    continue;
                }
                bytes |= (long) (text.charAt(i) & 255) << (8 * k);
                i++;
                n++;
            }
            if (n > 0) {
                due("type(" + bytes + ")", book.type(bytes), model.type(bytes));
            }
        }
    }

    private void tellFormula() {
        int c = cell();
        String text = blanks(mutate(isGiven() ? GIVEN_FORMULAS[pick(GIVEN_FORMULAS.length)] : e(pick(4), 0)));
        log.append("  ").append(text).append('\n');
        type(text);
        due("formula(" + c + ")", book.formula(c), model.formula(c));
        due("fault()", book.fault(), model.fault());
        if (pick(20) == 0) {
            due("wipe()", book.wipe(), model.wipe());
        }
    }

    private boolean isGiven() {
        return pick(100) < given;
    }

    private void tellFunction() {
        int n = 1 + (pick(3) == 0 ? pick(4) : 0);
        StringBuilder head = new StringBuilder(FUNCS[pick(pick(2) == 0 ? 3 : 9)]).append('(');
        for (int i = 0; i < n; i++) {
            head.append(i > 0 ? "," : "").append(pick(20) == 0 ? NAMES[pick(4)] : NAMES[i]);
        }
        String random = head + ")=" + e(pick(4), 2);
        String text = blanks(mutate(isGiven() ? GIVEN_FUNCTIONS[pick(GIVEN_FUNCTIONS.length)] : random));
        log.append("  ").append(text).append('\n');
        type(text);
        due("function()", book.function(), model.function());
        due("fault()", book.fault(), model.fault());
    }

    private void tellConstant() {
        int sheet = pick(30) == 0 ? 4 - 5 * pick(2) : pick(3) == 0 ? pick(4) : 0;
        String random = NAMES[pick(pick(4) == 0 ? 8 : 4)] + "=" + e(pick(3), 1);
        String text = blanks(mutate(isGiven() ? GIVEN_CONSTANTS[pick(GIVEN_CONSTANTS.length)] : random));
        log.append("  ").append(text).append('\n');
        type(text);
        due("constant(" + sheet + ")", book.constant(sheet), model.constant(sheet));
        due("fault()", book.fault(), model.fault());
    }

    private String mutate(String s) {
        if (pick(6) != 0) {
            return s;
        }
        StringBuilder b = new StringBuilder(s);
        for (int n = 1 + pick(2); n > 0 && b.length() > 0; n--) {
            String signs = "+-*/%(),:<=>.09azAaHh7E$ifsum \u00ff";
            int at = pick(b.length());
            switch (pick(3)) {
                case 0: b.deleteCharAt(at); break;
                case 1: b.insert(at, signs.charAt(pick(signs.length()))); break;
                default: b.setCharAt(at, signs.charAt(pick(signs.length())));
            }
        }
        return b.toString();
    }

    private String blanks(String s) {
        if (pick(5) != 0) {
            return s;
        }
        StringBuilder b = new StringBuilder();
        for (char c : s.toCharArray()) {
            if (pick(8) == 0) {
                b.append(' ');
            }
            b.append(c);
        }
        return b.append(pick(3) == 0 ? "  " : "").toString();
    }

    private String ref() {
        int c = Math.max(0, Math.min(255, cell()));
        return ref(c);
    }

    private static String ref(int c) {
        return "" + (char) ('A' + c / 64) + (char) ('a' + c % 8) + (char) ('0' + c / 8 % 8);
    }

    private String range() {
        int c = Math.max(0, Math.min(255, cell()));
        int right = Math.min(7 - c % 8, pick(4));
        int down = Math.min(7 - c / 8 % 8, pick(3));
        if (pick(30) == 0) {
            return ref() + ":" + ref();
        }
        return ref(c) + ":" + ref(c + 8 * down + right);
    }

    private String num() {
        switch (pick(12)) {
            case 0: return "9" + "00000000000000000".substring(pick(17));
            case 1: return "0" + pick(10);
            case 2: return pick(100) + ".5";
            case 3: return "00.25";
            case 4: return "0.00000000001";
            case 5: return pick(40) == 0 ? "1234567890123456789" : "999999999999999999";
            case 6: return pick(40) == 0 ? "12345678.12345678" : "12345678.1234567";
            default: return "" + pick(12);
        }
    }

    /** sort: 0 a FORMULA's, 1 a CONSTANT's, 2 a FUNCTION's. */
    private String e(int depth, int sort) {
        if (pick(60) == 0) {
            return chain(sort);
        }
        return pick(7) == 0 ? side(depth, sort) + new String[] {"<", "<=", "=", "<>"}[pick(4)] + side(depth, sort)
            : side(depth, sort);
    }

    private String chain(int sort) {
        StringBuilder b = new StringBuilder(atom(0, sort));
        boolean nest = pick(2) == 0;
        int n = nest ? 8 + pick(5) : 17 + pick(6);
        for (int i = 0; i < n; i++) {
            if (nest) {
                b.insert(0, pick(2) == 0 ? "-" : "(").append(b.charAt(0) == '(' ? ")" : "");
            } else {
                b.append("+-*/%".charAt(pick(5))).append(pick(5) == 0 ? "1" : atom(0, sort));
            }
        }
        return b.toString();
    }

    private String side(int depth, int sort) {
        if (depth <= 0) {
            return atom(0, sort);
        }
        StringBuilder b = new StringBuilder(atom(depth - 1, sort));
        for (int n = pick(3); n > 0; n--) {
            b.append("+-*/%+-*".charAt(pick(8))).append(atom(depth - 1, sort));
        }
        return b.toString();
    }

    private String atom(int depth, int sort) {
        if (depth <= 0 || pick(4) == 0) {
            return leaf(sort);
        }
        int d = depth - 1;
        switch (pick(sort == 0 ? 15 : 9)) {
            case 0: return "-" + atom(d, sort);
            case 1: return "(" + e(d, sort) + ")";
            case 2: return "if(" + e(d, sort) + "," + e(d, sort) + "," + e(d, sort) + ")";
            case 3: return "try(" + e(d, sort) + "," + e(d, sort) + ")";
            case 4: return "root(" + FUNCS[pick(3)] + ",-" + e(d, sort) + "," + e(d, sort) + ")";
            case 5: return (pick(2) == 0 ? "cut(" : "real(") + e(d, sort) + ")";
            case 6: case 7: return FUNCS[pick(3)] + "(" + e(d, sort) + ")";
            case 8: {
                String more = pick(2) == 0 ? "" : "," + e(d, sort);
                return FUNCS[pick(5)] + "(" + e(d, sort) + "," + e(d, sort) + more + ")";
            }
            case 9: case 10:
                return new String[] {"sum(", "least(", "most(", "count("}[pick(4)] + range() + ")";
            case 11: return "at(" + range() + "," + e(d, sort) + ")";
            case 12: return "line(" + e(d, sort) + "," + likeRanges() + ")";
            case 13: return "area(" + likeRanges() + ")";
            default: return leaf(sort);
        }
    }

    private String likeRanges() {
        String r = range();
        return r + "," + (pick(3) == 0 ? range() : r);
    }

    private String leaf(int sort) {
        int t = pick(10);
        if (sort == 0 && t < 6 || pick(80) == 0) {
            return ref();
        }
        if (sort == 2 && t < 6) {
            return NAMES[pick(12) == 0 ? pick(4) : 0];
        }
        if (t < 7) {
            return NAMES[pick(4)];
        }
        return num();
    }

    private void printAndTake() {
        int c = cell();
        due("print(" + c + ")", book.print(c), model.print(c));
        int n = Math.max(0, model.count(6));
        for (int i = pick(8); i <= n && calls < 470; i += 1 + pick(12)) {
            if (!due("sign(" + i + ")", book.sign(i), model.sign(i))) {
                return;
            }
        }
        if (pick(3) == 0) {
            due("take()", book.take(), model.take());
            due("count(5)", book.count(5), model.count(5));
            int to = cell();
            due("formula(" + to + ")", book.formula(to), model.formula(to));
            due("fault()", book.fault(), model.fault());
        }
    }

    /**
     * Looks at every cell without counting it as calls: what is looked at does not change. So a book here
     * answers more than the 512 calls that the document promises; LoadBook does not count them.
     */
    private void look() {
        int before = calls;
        int mark = log.length();
        for (int c = -1; c <= 256 && wrong == 0; c++) {
            boolean ok = due("state(" + c + ")", book.state(c), model.state(c))
                && due("value(" + c + ")", book.value(c), model.value(c));
            for (int what = -1; what < 4 && ok; what++) {
                ok = due("failure(" + c + ", " + what + ")", book.failure(c, what), model.failure(c, what));
            }
        }
        for (int i = -1; i < 49 && wrong == 0; i++) {
            due("done(" + i + ")", book.done(i), model.done(i));
            for (int k = -1; k < 5 && wrong == 0; k++) {
                due("cycle(" + i + ", " + k + ")", book.cycle(i, k), model.cycle(i, k));
            }
        }
        for (int n = 0; n < 6 && wrong == 0; n++) {
            int c = model.done(pick(Math.max(1, model.count(3))));
            lists(c, 26);
        }
        constants();
        if (wrong == 0) {
            log.setLength(mark);
        }
        calls = before;
    }

    private void lists(int c, int most) {
        for (int i = -1; i < most && wrong == 0; i++) {
            due("trace(" + c + ", " + i + ")", book.trace(c, i), model.trace(c, i));
            due("needs(" + c + ", " + i + ")", book.needs(c, i), model.needs(c, i));
            if (i < 4) {
                due("neededBy(" + c + ", " + i + ")", book.neededBy(c, i), model.neededBy(c, i));
            }
        }
    }

    private void constants() {
        for (int what = -1; what < 16 && wrong == 0; what++) {
            due("count(" + what + ")", book.count(what), model.count(what));
        }
        for (int s = -1; s < 5; s++) {
            for (int i = -1; i < 6 && wrong == 0; i++) {
                for (int what = -1; what < 4; what++) {
                    due("named(" + s + ", " + i + ", " + what + ")", book.named(s, i, what), model.named(s, i, what));
                }
            }
        }
    }

    private void askAnything() {
        int e = model.count(0) + 1 - pick(13);
        int c = cell();
        int what = pick(3);
        due("old(" + e + ", " + c + ", " + what + ")", book.old(e, c, what), model.old(e, c, what));
        int before = calls;
        lists(c, 4);
        constants();
        due("state(" + c + ")", book.state(c), model.state(c));
        due("value(" + c + ")", book.value(c), model.value(c));
        calls = before;
    }
}
