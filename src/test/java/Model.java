import java.util.ArrayList;
import java.util.Arrays;
import java.util.Collections;
import java.util.HashSet;
import java.util.LinkedHashSet;
import java.util.List;
import java.util.Set;
import java.util.TreeSet;

/**
 * The document once more, written for plainness with the whole Java library: trees, exceptions,
 * sets. FuzzTest holds LoadBook against it. It shares no code and no way of working with LoadBook.
 */
final class Model {
    static final int NONE = -1;
    static final Set<String> WORDS = new HashSet<>(Arrays.asList(
        "if", "try", "sum", "least", "most", "count", "at", "line", "area", "root", "cut", "real"));

    /** A TOKEN: sort is n(ame), r(ef), w(hole), d(ecimal), s(ign), e(nd), x (none begins here). */
    static final class Token {
        char sort;
        String text;
        int place;

        Token(char sort, String text, int place) {
            this.sort = sort;
            this.text = text;
            this.place = place;
        }

        boolean is(String sign) {
            return sort == 's' && text.equals(sign);
        }
    }

    static final class Fault extends RuntimeException {
        final int number;
        final int place;

        Fault(int number, int place) {
            super(null, null, false, false);
            this.number = number;
            this.place = place;
        }
    }

    /** why: a kind; by reading: first and cause are those of what was read. */
    static final class Fail extends RuntimeException {
        final int kind;
        final boolean read;
        final int first;
        final int cause;

        Fail(int kind, boolean read, int first, int cause) {
            super(null, null, false, false);
            this.kind = kind;
            this.read = read;
            this.first = first;
            this.cause = cause;
        }

        Fail(int kind) {
            this(kind, false, NONE, 0);
        }
    }

    /** A PART. what: whole decimal ref range name neg sign, a word, or call. */
    static final class Node {
        String what;
        String text;
        int place;
        int namePlace;
        List<Node> in = new ArrayList<>();

        Node(String what, String text, int place) {
            this.what = what;
            this.text = text;
            this.place = place;
        }
    }

    static final class Expr {
        Node node;
        int parts;
    }

    static final class Func {
        String name;
        List<String> args;
        Node body;
        boolean told;
    }

    static final class Const {
        String name;
        Node body;
        int state;
        Object value;
        int kind;
    }

    static final class Slot {
        int state;
        Object value;
        Node formula;
        int parts;
        int kind;
        int first;
        int cause;
        List<Integer> reads = new ArrayList<>();
        boolean told;
    }

    static final class Edition {
        int[] states = new int[256];
        long[] values = new long[256];
    }

    List<Integer> text = new ArrayList<>();
    String out = "";
    Slot[] slots = new Slot[256];
    List<Func> funcs = new ArrayList<>();
    List<List<Const>> consts = new ArrayList<>();
    boolean[] constTold = new boolean[4];
    int[] spoil = new int[4];
    int[] times = new int[4];
    int faultPlace = NONE;
    List<Integer> doneList = new ArrayList<>();
    List<List<Integer>> cycles = new ArrayList<>();
    List<Edition> editions = new ArrayList<>();

    Model() {
        for (int i = 0; i < 256; i++) {
            slots[i] = new Slot();
        }
        for (int i = 0; i < 4; i++) {
            consts.add(new ArrayList<>());
        }
    }

    // ---- texts

    int type(long bytes) {
        List<Integer> more = new ArrayList<>();
        for (int i = 0; i < 8; i++) {
            int b = (int) (bytes >> (8 * i)) & 0xff;
            if (b != 0) {
                more.add(b);
            }
        }
        if (text.size() + more.size() > 240) {
            return -2;
        }
        text.addAll(more);
        return text.size();
    }

    int wipe() {
        int n = text.size();
        text.clear();
        return n;
    }

    List<Token> tokens() {
        List<Token> list = new ArrayList<>();
        StringBuilder b = new StringBuilder();
        for (int c : text) {
            b.append((char) c);
        }
        String t = b.toString();
        int i = 0;
        while (i < t.length()) {
            if (t.charAt(i) == ' ') {
                i++;
                continue;
            }
            String rest = t.substring(i);
            java.util.regex.Matcher m = java.util.regex.Pattern.compile(
                "^(?:([a-z]+)|([A-D][a-h][0-7])|([0-9]+\\.[0-9]+)|([0-9]+)|(<=|<>|[-+*/%(),:<=]))").matcher(rest);
            if (!m.find()) {
                list.add(new Token('x', "", i));
                return list;
            }
            String s = m.group();
            char sort = m.group(1) != null ? 'n' : m.group(2) != null ? 'r' : m.group(3) != null ? 'd'
                : m.group(4) != null ? 'w' : 's';
            boolean tooLong = sort == 'n' && s.length() > 8 || sort == 'w' && s.length() > 18
                || sort == 'd' && s.length() > 16;
            list.add(new Token(tooLong ? 'x' : sort, s, i));
            if (tooLong) {
                return list;
            }
            i += s.length();
        }
        list.add(new Token('e', "", t.length()));
        return list;
    }

    /** Recursive descent over the TOKENS; throws FAULTS 1 to 3. */
    final class Reader {
        final List<Token> list = tokens();
        int at;
        int parts;
        int open;

        Token look() {
            Token t = list.get(at);
            if (t.sort == 'x') {
                throw new Fault(1, t.place);
            }
            return t;
        }

        Token eat() {
            Token t = look();
            at++;
            return t;
        }

        Token sign(String s) {
            if (!look().is(s)) {
                throw new Fault(2, look().place);
            }
            return eat();
        }

        String name() {
            Token t = look();
            if (t.sort != 'n' || WORDS.contains(t.text)) {
                throw new Fault(2, t.place);
            }
            return eat().text;
        }

        void part(int place) {
            parts++;
            if (parts > 40) {
                throw new Fault(3, place);
            }
        }

        void opens(int place) {
            open++;
            if (open > 10) {
                throw new Fault(3, place);
            }
        }

        Node whole() {
            Node n = e();
            if (look().sort != 'e') {
                throw new Fault(2, look().place);
            }
            return n;
        }

        Node e() {
            Node left = chain("+", "-");
            Token t = look();
            if (t.is("<") || t.is("<=") || t.is("=") || t.is("<>")) {
                return between(left, "+", "-");
            }
            return left;
        }

        Node between(Node left, String... of) {
            Token t = look();
            part(t.place);
            eat();
            Node n = new Node("sign", t.text, t.place);
            n.in.add(left);
            n.in.add(of.length == 0 ? atom() : chain(of));
            return n;
        }

        Node chain(String... signs) {
            boolean sums = signs[0].equals("+");
            Node left = sums ? chain("*", "/", "%") : atom();
            while (look().sort == 's' && Arrays.asList(signs).contains(look().text)) {
                left = sums ? between(left, "*", "/", "%") : between(left);
            }
            return left;
        }

        Node range() {
            Token a = look();
            if (a.sort != 'r') {
                throw new Fault(2, a.place);
            }
            part(a.place);
            eat();
            sign(":");
            Token b = look();
            if (b.sort != 'r') {
                throw new Fault(2, b.place);
            }
            eat();
            return new Node("range", a.text + ":" + b.text, a.place);
        }

        Node atom() {
            Token t = look();
            if (t.is("-")) {
                part(t.place);
                opens(t.place);
                eat();
                Node n = new Node("neg", "-", t.place);
                n.in.add(atom());
                open--;
                return n;
            }
            if (t.is("(")) {
                opens(t.place);
                eat();
                Node n = e();
                sign(")");
                open--;
                return n;
            }
            if (t.sort == 'w' || t.sort == 'd' || t.sort == 'r') {
                part(t.place);
                eat();
                return new Node(t.sort == 'w' ? "whole" : t.sort == 'd' ? "decimal" : "ref", t.text, t.place);
            }
            if (t.sort != 'n') {
                throw new Fault(2, t.place);
            }
            part(t.place);
            eat();
            if (!look().is("(")) {
                if (WORDS.contains(t.text)) {
                    throw new Fault(2, look().place);
                }
                return new Node("name", t.text, t.place);
            }
            opens(look().place);
            eat();
            Node n = new Node(WORDS.contains(t.text) ? t.text : "call", t.text, t.place);
            inside(n);
            sign(")");
            open--;
            return n;
        }

        void inside(Node n) {
            String shape;
            switch (n.what) {
                case "if": shape = "EEE"; break;
                case "try": shape = "EE"; break;
                case "sum": case "least": case "most": case "count": shape = "R"; break;
                case "at": shape = "RE"; break;
                case "line": shape = "ERR"; break;
                case "area": shape = "RR"; break;
                case "root": shape = "NEE"; break;
                case "cut": case "real": shape = "E"; break;
                default:
                    n.in.add(e());
                    while (look().is(",") && n.in.size() < 3) {
                        eat();
                        n.in.add(e());
                    }
                    return;
            }
            for (int i = 0; i < shape.length(); i++) {
                if (i > 0) {
                    sign(",");
                }
                if (shape.charAt(i) == 'E') {
                    n.in.add(e());
                } else if (shape.charAt(i) == 'R') {
                    n.in.add(range());
                } else {
                    n.namePlace = look().place;
                    n.text = name();
                }
            }
        }
    }

    static int cellOf(String ref) {
        return 64 * (ref.charAt(0) - 'A') + 8 * (ref.charAt(2) - '0') + (ref.charAt(1) - 'a');
    }

    static List<Integer> cellsOf(String range) {
        int a = cellOf(range.substring(0, 3));
        int b = cellOf(range.substring(4, 7));
        List<Integer> list = new ArrayList<>();
        for (int row = a / 8; row <= b / 8; row++) {
            for (int col = a % 8; col <= b % 8; col++) {
                list.add(8 * row + col);
            }
        }
        return list;
    }

    Func func(String name) {
        for (Func f : funcs) {
            if (f.name.equals(name)) {
                return f;
            }
        }
        return null;
    }

    /** Adds each FAULT 4 of an E. names: what a NAME without ( may be; own: a FUNCTION being told. */
    void check(Node n, Set<String> names, boolean inFormula, Func own, List<Fault> faults) {
        if (n.what.equals("name") && !names.contains(n.text)) {
            faults.add(new Fault(4, n.place));
        }
        if (n.what.equals("call") || n.what.equals("root")) {
            int given = n.what.equals("call") ? n.in.size() : 1;
            Func f = own != null && own.name.equals(n.text) ? own : func(n.text);
            if (f == null || f.args.size() != given) {
                faults.add(new Fault(4, n.what.equals("call") ? n.place : n.namePlace));
            }
        }
        if ((n.what.equals("ref") || n.what.equals("range")) && !inFormula) {
            faults.add(new Fault(4, n.place));
        }
        if (n.what.equals("range")) {
            String r = n.text;
            if (r.charAt(0) != r.charAt(4) || r.charAt(5) < r.charAt(1) || r.charAt(6) < r.charAt(2)) {
                faults.add(new Fault(4, n.place));
            }
        }
        for (Node m : n.in) {
            check(m, names, inFormula, own, faults);
        }
    }

    static void throwFirst(List<Fault> faults) {
        Fault first = null;
        for (Fault f : faults) {
            if (first == null || f.place < first.place) {
                first = f;
            }
        }
        if (first != null) {
            throw first;
        }
    }

    Set<String> constNames(int sheet, int before) {
        Set<String> names = new HashSet<>();
        for (int i = 0; i < before; i++) {
            names.add(consts.get(sheet).get(i).name);
        }
        return names;
    }

    int formulas() {
        int n = 0;
        for (Slot s : slots) {
            n += s.formula != null ? 1 : 0;
        }
        return n;
    }

    int formula(int cell) {
        if (cell < 0 || cell > 255) {
            return -1;
        }
        try {
            faultPlace = NONE;
            Reader r = new Reader();
            Node n = r.whole();
            List<Fault> faults = new ArrayList<>();
            check(n, constNames(cell / 64, consts.get(cell / 64).size()), true, null, faults);
            throwFirst(faults);
            if (slots[cell].formula == null && formulas() == 48) {
                return -2;
            }
            Slot s = new Slot();
            s.formula = n;
            s.state = 6;
            s.told = true;
            slots[cell] = s;
            return r.parts;
        } catch (Fault f) {
            faultPlace = f.place;
            return -100 - f.number;
        } finally {
            text.clear();
        }
    }

    int function() {
        try {
            faultPlace = NONE;
            Reader r = new Reader();
            List<Fault> faults = new ArrayList<>();
            Func f = new Func();
            f.args = new ArrayList<>();
            int place = r.look().place;
            f.name = r.name();
            r.sign("(");
            do {
                if (!f.args.isEmpty()) {
                    r.eat();
                }
                int p = r.look().place;
                String a = r.name();
                if (f.args.contains(a)) {
                    faults.add(new Fault(5, p));
                }
                f.args.add(a);
            } while (f.args.size() < 3 && r.look().is(","));
            r.sign(")");
            r.sign("=");
            f.body = r.whole();
            f.told = true;
            Func before = func(f.name);
            if (before != null && before.args.size() != f.args.size()) {
                faults.add(new Fault(5, place));
            }
            check(f.body, new HashSet<>(f.args), false, f, faults);
            throwFirst(faults);
            if (before != null) {
                funcs.set(funcs.indexOf(before), f);
                return funcs.indexOf(f);
            }
            if (funcs.size() == 8) {
                return -2;
            }
            funcs.add(f);
            return funcs.size() - 1;
        } catch (Fault f) {
            faultPlace = f.place;
            return -100 - f.number;
        } finally {
            text.clear();
        }
    }

    int constant(int sheet) {
        if (sheet < 0 || sheet > 3) {
            return -1;
        }
        try {
            faultPlace = NONE;
            Reader r = new Reader();
            Const c = new Const();
            c.name = r.name();
            r.sign("=");
            c.body = r.whole();
            List<Const> all = consts.get(sheet);
            int number = all.size();
            for (int i = 0; i < all.size(); i++) {
                if (all.get(i).name.equals(c.name)) {
                    number = i;
                }
            }
            List<Fault> faults = new ArrayList<>();
            check(c.body, constNames(sheet, number), false, null, faults);
            throwFirst(faults);
            if (number == 5) {
                return -2;
            }
            if (number == all.size()) {
                all.add(c);
            } else {
                all.set(number, c);
            }
            constTold[sheet] = true;
            return number;
        } catch (Fault f) {
            faultPlace = f.place;
            return -100 - f.number;
        } finally {
            text.clear();
        }
    }

    int fault() {
        return faultPlace;
    }

    static String printed(Node n) {
        switch (n.what) {
            case "whole":
                return Long.toString(Long.parseLong(n.text));
            case "decimal": {
                String[] p = n.text.split("\\.");
                return Long.parseLong(p[0]) + "." + p[1];
            }
            case "ref": case "range": case "name":
                return n.text;
            case "neg":
                return "(-" + printed(n.in.get(0)) + ")";
            case "sign":
                return "(" + printed(n.in.get(0)) + n.text + printed(n.in.get(1)) + ")";
            default: {
                List<String> inner = new ArrayList<>();
                if (n.what.equals("root")) {
                    inner.add(n.text);
                }
                for (Node m : n.in) {
                    inner.add(printed(m));
                }
                return (n.what.equals("call") ? n.text : n.what) + "(" + String.join(",", inner) + ")";
            }
        }
    }

    int print(int cell) {
        if (cell < 0 || cell > 255) {
            return -1;
        }
        if (slots[cell].formula == null) {
            return -3;
        }
        out = printed(slots[cell].formula);
        return out.length();
    }

    int sign(int i) {
        return i < 0 || i >= out.length() ? NONE : out.charAt(i);
    }

    int take() {
        if (out.length() > 240) {
            return -2;
        }
        text.clear();
        for (char c : out.toCharArray()) {
            text.add((int) c);
        }
        return text.size();
    }

    // ---- telling

    int tell(int cell, int state, Object value) {
        Slot s = new Slot();
        s.state = state;
        s.value = value;
        s.told = true;
        slots[cell] = s;
        return 1;
    }

    int whole(int cell, long v) {
        return cell < 0 || cell > 255 ? -1 : tell(cell, 1, v);
    }

    int number(int cell, long n, int e) {
        if (cell < 0 || cell > 255) {
            return -1;
        }
        if (e < 0 || e > 15) {
            return -2;
        }
        return tell(cell, 2, (double) n / Double.parseDouble("1e" + e));
    }

    int empty(int cell) {
        if (cell < 0 || cell > 255) {
            return -1;
        }
        return slots[cell].state == 0 ? 0 : tell(cell, 0, null);
    }

    // ---- working out

    final class Work {
        int steps = 1000;
        int calls;
        int sheet;
        List<Integer> reads = new ArrayList<>();

        void step() {
            if (steps == 0) {
                throw new Fail(8);
            }
            steps--;
        }

        Object read(int cell) {
            reads.add(cell);
            Slot s = slots[cell];
            if (s.state >= 3) {
                throw new Fail(s.kind, true, s.first, s.cause);
            }
            return s.state == 0 ? null : s.value;
        }

        Object mustRead(int cell) {
            Object v = read(cell);
            if (v == null) {
                throw new Fail(3);
            }
            return v;
        }

        double[] readAll(Node range) {
            List<Integer> list = cellsOf(range.text);
            double[] row = new double[list.size()];
            for (int i = 0; i < row.length; i++) {
                step();
                row[i] = real(mustRead(list.get(i)));
            }
            return row;
        }

        Object work(Node n, Func in, Object[] args) {
            step();
            switch (n.what) {
                case "whole":
                    return Long.parseLong(n.text);
                case "decimal": {
                    int behind = n.text.length() - n.text.indexOf('.') - 1;
                    return (double) Long.parseLong(n.text.replace(".", "")) / Double.parseDouble("1e" + behind);
                }
                case "ref":
                    return mustRead(cellOf(n.text));
                case "name":
                    if (in != null) {
                        return args[in.args.indexOf(n.text)];
                    }
                    for (Const c : consts.get(sheet)) {
                        if (c.name.equals(n.text)) {
                            return c.value;
                        }
                    }
                    throw new IllegalStateException("no such name");
                case "neg": {
                    Object v = work(n.in.get(0), in, args);
                    return v instanceof Long ? (Object) (0L - (Long) v) : (Object) (-(Double) v);
                }
                case "sign": {
                    Object a = work(n.in.get(0), in, args);
                    return between(n.text, a, work(n.in.get(1), in, args));
                }
                case "if":
                    return work(n.in.get(isZero(work(n.in.get(0), in, args)) ? 2 : 1), in, args);
                case "try": {
                    int before = calls;
                    try {
                        return work(n.in.get(0), in, args);
                    } catch (Fail f) {
                        if (f.kind == 8 && !f.read) {
                            throw f;
                        }
                        calls = before;
                        return work(n.in.get(1), in, args);
                    }
                }
                case "sum": case "least": case "most": case "count":
                    return fold(n.what, cellsOf(n.in.get(0).text));
                case "at": {
                    Object i = work(n.in.get(1), in, args);
                    List<Integer> list = cellsOf(n.in.get(0).text);
                    if (i instanceof Double) {
                        throw new Fail(11);
                    }
                    if ((Long) i < 0 || (Long) i >= list.size()) {
                        throw new Fail(2);
                    }
                    step();
                    return mustRead(list.get((int) (long) (Long) i));
                }
                case "line": {
                    double x = real(work(n.in.get(0), in, args));
                    double[] r = readAll(n.in.get(1));
                    return line(x, r, readAll(n.in.get(2)));
                }
                case "area": {
                    double[] r = readAll(n.in.get(0));
                    return area(r, readAll(n.in.get(1)));
                }
                case "root": {
                    double a = real(work(n.in.get(0), in, args));
                    return root(func(n.text), a, real(work(n.in.get(1), in, args)));
                }
                case "cut": {
                    Object v = work(n.in.get(0), in, args);
                    return v instanceof Long ? v : (Object) (long) (double) (Double) v;
                }
                case "real":
                    return real(work(n.in.get(0), in, args));
                case "call": {
                    Object[] given = new Object[n.in.size()];
                    for (int i = 0; i < given.length; i++) {
                        given[i] = work(n.in.get(i), in, args);
                    }
                    return call(func(n.text), given);
                }
                default:
                    throw new IllegalStateException(n.what);
            }
        }

        Object call(Func f, Object... given) {
            if (calls == 20) {
                throw new Fail(4);
            }
            calls++;
            Object v = work(f.body, f, given);
            calls--;
            return v;
        }

        Object fold(String what, List<Integer> list) {
            Object sofar = null;
            long n = 0;
            for (int cell : list) {
                step();
                Object v = read(cell);
                if (v == null) {
                    continue;
                }
                n++;
                if (sofar == null) {
                    sofar = v;
                } else if (what.equals("sum")) {
                    sofar = between("+", sofar, v);
                } else if (what.equals("least") && between("<", v, sofar).equals(1L)) {
                    sofar = v;
                } else if (what.equals("most") && between("<", sofar, v).equals(1L)) {
                    sofar = v;
                }
            }
            if (what.equals("count")) {
                return n;
            }
            if (sofar == null && what.equals("sum")) {
                return 0L;
            }
            if (sofar == null) {
                throw new Fail(3);
            }
            return sofar;
        }

        Object root(Func f, double a, double b) {
            double low = a;
            double high = b;
            step();
            boolean below = real(call(f, low)) < 0;
            step();
            if (real(call(f, high)) < 0 == below) {
                throw new Fail(6);
            }
            for (int i = 0; i < 60; i++) {
                double m = finite(low + finite(finite(high - low) * 0.5));
                step();
                if (real(call(f, m)) < 0 == below) {
                    low = m;
                } else {
                    high = m;
                }
            }
            return finite(low + finite(finite(high - low) * 0.5));
        }
    }

    static double finite(double x) {
        if (Double.isInfinite(x) || Double.isNaN(x)) {
            throw new Fail(5);
        }
        return x;
    }

    static double real(Object v) {
        return v instanceof Long ? (double) (long) (Long) v : (Double) v;
    }

    static boolean isZero(Object v) {
        return v instanceof Long ? (Long) v == 0 : (Double) v == 0.0;
    }

    static Object between(String sign, Object x, Object y) {
        if (x instanceof Long && y instanceof Long) {
            long a = (Long) x;
            long b = (Long) y;
            switch (sign) {
                case "+": return a + b;
                case "-": return a - b;
                case "*": return a * b;
                case "<": return a < b ? 1L : 0L;
                case "<=": return a <= b ? 1L : 0L;
                case "=": return a == b ? 1L : 0L;
                case "<>": return a != b ? 1L : 0L;
                default:
                    if (b == 0) {
                        throw new Fail(1);
                    }
                    return sign.equals("/") ? a / b : a % b;
            }
        }
        double a = real(x);
        double b = real(y);
        switch (sign) {
            case "+": return finite(a + b);
            case "-": return finite(a - b);
            case "*": return finite(a * b);
            case "<": return a < b ? 1L : 0L;
            case "<=": return a <= b ? 1L : 0L;
            case "=": return a == b ? 1L : 0L;
            case "<>": return a != b ? 1L : 0L;
            default:
                if (b == 0) {
                    throw new Fail(1);
                }
                return finite(sign.equals("/") ? a / b : a % b);
        }
    }

    static Object line(double x, double[] r, double[] s) {
        boolean bad = r.length != s.length || r.length == 1;
        for (int i = 1; i < r.length; i++) {
            bad |= !(r[i] > r[i - 1]);
        }
        if (bad) {
            throw new Fail(7);
        }
        int last = r.length - 1;
        if (!(x > r[0])) {
            return s[0];
        }
        if (!(x < r[last])) {
            return s[last];
        }
        int k = last;
        while (r[k] > x) {
            k--;
        }
        double width = finite(r[k + 1] - r[k]);
        double t = finite((x - r[k]) / width);
        double rise = finite(s[k + 1] - s[k]);
        return finite(s[k] + finite(rise * t));
    }

    static Object area(double[] r, double[] s) {
        if (r.length != s.length || r.length == 1) {
            throw new Fail(7);
        }
        double sum = 0.0;
        for (int i = 0; i + 1 < r.length; i++) {
            double w = finite(r[i + 1] - r[i]);
            double h = finite(s[i] + s[i + 1]);
            sum = finite(sum + finite(w * h) / 2.0);
        }
        return sum;
    }

    // ---- recalculating

    static void collectNeeds(Node n, Set<Integer> into) {
        if (n.what.equals("ref")) {
            into.add(cellOf(n.text));
        } else if (n.what.equals("range")) {
            into.addAll(cellsOf(n.text));
        }
        for (Node m : n.in) {
            collectNeeds(m, into);
        }
    }

    Set<Integer> needsOf(int cell) {
        Set<Integer> set = new LinkedHashSet<>();
        if (slots[cell].formula != null) {
            collectNeeds(slots[cell].formula, set);
        }
        return set;
    }

    boolean reachesTold(Node n, Set<String> seen) {
        if (n.what.equals("call") || n.what.equals("root")) {
            Func f = func(n.text);
            if (f.told) {
                return true;
            }
            if (seen.add(f.name) && reachesTold(f.body, seen)) {
                return true;
            }
        }
        for (Node m : n.in) {
            if (reachesTold(m, seen)) {
                return true;
            }
        }
        return false;
    }

    /** All cells that a cell needs, and those need, and so on. */
    Set<Integer> farNeeds(int cell) {
        Set<Integer> seen = new TreeSet<>();
        List<Integer> todo = new ArrayList<>(needsOf(cell));
        while (!todo.isEmpty()) {
            int c = todo.remove(todo.size() - 1);
            if (seen.add(c)) {
                todo.addAll(needsOf(c));
            }
        }
        return seen;
    }

    int recalculate() {
        boolean[] stale = new boolean[4];
        for (int s = 0; s < 4; s++) {
            stale[s] = constTold[s];
            for (Const c : consts.get(s)) {
                stale[s] |= reachesTold(c.body, new HashSet<>());
            }
            if (stale[s]) {
                workConstants(s);
            }
            constTold[s] = false;
        }
        List<Set<Integer>> far = new ArrayList<>();
        for (int c = 0; c < 256; c++) {
            far.add(slots[c].formula == null ? Collections.emptySet() : farNeeds(c));
        }
        TreeSet<Integer> changed = new TreeSet<>();
        for (int c = 0; c < 256; c++) {
            if (slots[c].formula == null) {
                continue;
            }
            boolean is = slots[c].told || stale[c / 64] || reachesTold(slots[c].formula, new HashSet<>());
            for (int d : needsOf(c)) {
                is |= slots[d].told;
            }
            if (is) {
                changed.add(c);
            }
        }
        boolean more = true;
        while (more) {
            more = false;
            for (int c = 0; c < 256; c++) {
                if (slots[c].formula != null && !changed.contains(c) && !Collections.disjoint(needsOf(c), changed)) {
                    changed.add(c);
                    more = true;
                }
            }
        }
        findCycles(far);
        doneList.clear();
        while (doneList.size() < changed.size()) {
            for (int c : changed) {
                if (doneList.contains(c)) {
                    continue;
                }
                Set<Integer> waits = needsOf(c);
                waits.retainAll(changed);
                waits.removeAll(doneList);
                if (far.get(c).contains(c) || waits.isEmpty()) {
                    doneList.add(c);
                    doCell(c, far);
                    break;
                }
            }
        }
        Edition e = new Edition();
        for (int c = 0; c < 256; c++) {
            slots[c].told = false;
            e.states[c] = state(c);
            e.values[c] = value(c);
        }
        for (Func f : funcs) {
            f.told = false;
        }
        editions.add(e);
        return doneList.size();
    }

    void workConstants(int s) {
        times[s]++;
        spoil[s] = 0;
        for (Const c : consts.get(s)) {
            c.state = 0;
            c.value = null;
            c.kind = 0;
        }
        for (Const c : consts.get(s)) {
            Work w = new Work();
            w.sheet = s;
            try {
                c.value = w.work(c.body, null, null);
                c.state = c.value instanceof Long ? 1 : 2;
            } catch (Fail f) {
                c.state = 3;
                c.kind = f.kind;
                spoil[s] = f.kind;
                return;
            }
        }
    }

    void findCycles(List<Set<Integer>> far) {
        cycles.clear();
        Set<Integer> seen = new HashSet<>();
        for (int c = 0; c < 256; c++) {
            if (far.get(c).contains(c) && !seen.contains(c)) {
                List<Integer> one = new ArrayList<>();
                for (int d = 0; d < 256; d++) {
                    if (far.get(c).contains(d) && far.get(d).contains(c)) {
                        one.add(d);
                    }
                }
                seen.addAll(one);
                cycles.add(one);
            }
        }
    }

    void doCell(int c, List<Set<Integer>> far) {
        Slot s = slots[c];
        s.reads = new ArrayList<>();
        s.value = null;
        s.kind = 0;
        s.cause = 0;
        if (far.get(c).contains(c)) {
            s.state = 4;
            s.kind = 9;
            for (List<Integer> one : cycles) {
                if (one.contains(c)) {
                    s.first = one.get(0);
                }
            }
            return;
        }
        s.first = c;
        if (spoil[c / 64] != 0) {
            s.state = 3;
            s.kind = 10;
            s.cause = spoil[c / 64];
            return;
        }
        Work w = new Work();
        w.sheet = c / 64;
        s.reads = w.reads;
        try {
            s.value = w.work(s.formula, null, null);
            s.state = s.value instanceof Long ? 1 : 2;
        } catch (Fail f) {
            s.state = f.read ? 5 : 3;
            s.kind = f.kind;
            s.first = f.read ? f.first : c;
            s.cause = f.cause;
        }
    }

    // ---- looking

    static long bits(int state, Object value) {
        return state == 1 ? (Long) value : state == 2 ? Double.doubleToRawLongBits((Double) value) : 0;
    }

    int state(int cell) {
        return cell < 0 || cell > 255 ? -1 : slots[cell].state;
    }

    long value(int cell) {
        return cell < 0 || cell > 255 ? 0 : bits(slots[cell].state, slots[cell].value);
    }

    int failure(int cell, int what) {
        if (cell < 0 || cell > 255) {
            return -3;
        }
        if (what < 0 || what > 2) {
            return -2;
        }
        Slot s = slots[cell];
        if (s.state < 3 || s.state > 5) {
            return NONE;
        }
        return new int[] {s.kind, s.first, s.cause}[what];
    }

    static int get(List<Integer> list, int i) {
        return i < 0 || i >= list.size() ? NONE : list.get(i);
    }

    int done(int i) {
        return get(doneList, i);
    }

    int needs(int cell, int i) {
        return cell < 0 || cell > 255 ? NONE : get(new ArrayList<>(needsOf(cell)), i);
    }

    int neededBy(int cell, int i) {
        List<Integer> list = new ArrayList<>();
        for (int c = 0; c < 256; c++) {
            if (needsOf(c).contains(cell)) {
                list.add(c);
            }
        }
        return get(list, i);
    }

    int cycle(int i, int k) {
        return i < 0 || i >= cycles.size() ? NONE : get(cycles.get(i), k);
    }

    int trace(int cell, int i) {
        return cell < 0 || cell > 255 || i > 23 ? NONE : get(slots[cell].reads, i);
    }

    long named(int sheet, int i, int what) {
        if (sheet < 0 || sheet > 3 || i < 0 || i >= consts.get(sheet).size()) {
            return -1;
        }
        if (what < 0 || what > 2) {
            return -2;
        }
        Const c = consts.get(sheet).get(i);
        return what == 0 ? c.state : what == 1 ? bits(c.state, c.value) : c.kind;
    }

    long old(int e, int cell, int what) {
        if (cell < 0 || cell > 255) {
            return -1;
        }
        if (what != 0 && what != 1) {
            return -2;
        }
        if (e < 1 || e > editions.size() || editions.size() - e >= 10) {
            return -3;
        }
        Edition one = editions.get(e - 1);
        return what == 0 ? one.states[cell] : one.values[cell];
    }

    int count(int what) {
        switch (what) {
            case 0: return editions.size();
            case 1: return formulas();
            case 2: return funcs.size();
            case 3: return doneList.size();
            case 4: return cycles.size();
            case 5: return text.size();
            case 6: return out.length();
            case 7: case 8: case 9: case 10: return consts.get(what - 7).size();
            case 11: case 12: case 13: case 14: return times[what - 11];
            default: return NONE;
        }
    }
}
