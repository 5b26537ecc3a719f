/**
 * Sections 2 and 3, WORKING OUT and RECALCULATING, and promises 14 to 25: for each sentence that names a
 * boundary, what lies just inside it, at it and just outside it. What WorkingTest holds already is not
 * written twice.
 */
public final class WorkEdgeTest extends Checks {
    private static final double GREATEST = Double.MAX_VALUE;
    private static final double ULP_OF_1 = Math.ulp(1.0);

    private WorkEdgeTest(String name) {
        super(name);
    }

    public static void main(String[] args) {
        stepsOfParts();
        new WorkEdgeTest("16 value, STEPS of a CONSTANT").stepsOfConstants();
        new WorkEdgeTest("16 value, STEPS of each cell").stepsOfCells();
        new WorkEdgeTest("22 trace, where the STEPS end").readsUntilSpent();
        new WorkEdgeTest("17 failure, what a try takes").whatTryTakes();
        new WorkEdgeTest("17 failure, where a try ends").whereTryEnds();
        new WorkEdgeTest("16 value, behind many that FAILED").behindFailed();
        new WorkEdgeTest("16 value, from left to right").leftToRight();
        new WorkEdgeTest("16 value, LONGS that wrap").wrapping();
        new WorkEdgeTest("16 value, LONGS as DOUBLES").nearest();
        new WorkEdgeTest("16 value, < <= = <>").comparisons();
        new WorkEdgeTest("17 failure, DIVISION").divisors();
        new WorkEdgeTest("17 failure, BEYOND").beyond();
        new WorkEdgeTest("16 value, cut").cuts();
        new WorkEdgeTest("16 value, 0s").zeros();
        new WorkEdgeTest("16 value, sum, least, most, count").folds();
        new WorkEdgeTest("17 failure, as each one is read").asEachIsRead();
        new WorkEdgeTest("16 value, at").places();
        new WorkEdgeTest("16 value, line, beside its numbers").besideNumbers();
        new WorkEdgeTest("17 failure, TABLE").tables();
        new WorkEdgeTest("16 value, area").areas();
        new WorkEdgeTest("16 value, root").roots();
        new WorkEdgeTest("17 failure, DEEP").deep();
        new WorkEdgeTest("14 recalculate, CHANGED").changed();
        new WorkEdgeTest("14 recalculate, SPOILED").spoiled();
        new WorkEdgeTest("17 failure, CYCLE and SPOILED").cycleInSpoiled();
        new WorkEdgeTest("18 done").doneOfAll();
        new WorkEdgeTest("21 cycle").cyclesBySize();
        new WorkEdgeTest("22 trace, 24 READS").readsKept();
        new WorkEdgeTest("24 old, 10 EDITIONS").editionsKept();
        new WorkEdgeTest("25 count").countEnds();
        end("WorkEdgeTest");
    }

    // ---- STEPS

    /** FUNCTIONS whose CALLS with a WHOLE take 7, 21, 89 and 221 STEPS. */
    private void fillers() {
        function("w(a)=a+a+a", 0);
        function("s(a)=a+a+a+a+a+a+a+a+a+a", 1);
        function("v(a)=s(a)+s(a)+s(a)+s(a)", 2);
        function("t(a)=s(a)" + times(9, "+s(a)"), 3);
    }

    /** A text that takes so many STEPS, 700 to 1001 of them, by few PARTS. */
    private static String filler(int steps) {
        int most = (steps - 1) / 222;
        StringBuilder b = new StringBuilder("t(1)").append(times(most - 1, "+t(1)"));
        int left = steps - (222 * most - 1);
        String[] more = {"+v(1)", "+s(1)", "+w(1)"};
        int[] takes = {90, 22, 8};
        for (int i = 0; i < more.length; i++) {
            while (left >= takes[i] + 2) {
                b.append(more[i]);
                left -= takes[i];
            }
        }
        if (left % 2 == 1) {
            b.append("+-1");
            left -= 3;
        }
        return b.append(times(left / 2, "+1")).toString();
    }

    /** Each PART takes a STEP, but the R of a CALL; each cell of an R that is read takes one. */
    private static void stepsOfParts() {
        Object[][] all = {
            {"1", 1}, {"1.5", 1}, {"Aa0", 1}, {"k", 1}, {"(1)", 1}, {"-1", 2}, {"--1", 3}, {"1*1", 3}, {"(1<1)", 3},
            {"if(1,1,1/0)", 3}, {"if(0,1/0,1)", 3}, {"if(1+0,1,1)", 5}, {"try(1,1/0)", 2}, {"try(1/0,1)", 5},
            {"try(1+1/0,1)", 7}, {"try(1/0+1,1)", 6}, {"try(-(1/0),1)", 6}, {"try(Ah7,1)", 3}, {"cut(1)", 2}, {"real(1)", 2},
            {"sum(Aa0:Aa0)", 2}, {"sum(Aa0:Ah0)", 9}, {"sum(Aa6:Ah6)", 9}, {"least(Aa0:Ab0)", 3}, {"most(Aa0:Ac0)", 4},
            {"count(Aa6:Aa6)", 2}, {"count(Aa5:Ab6)", 5}, {"try(sum(Aa0:Ah0)/0,1)", 13}, {"try(sum(Ac7:Ah7),1)", 5},
            {"try(least(Aa5:Ah6),1)", 19}, {"at(Aa0:Ah7,0)", 3}, {"try(at(Aa0:Ah7,64),1)", 4},
            {"try(at(Aa0:Ah7,1.0),1)", 4}, {"try(at(Aa0:Ah7,63),1)", 5}, {"line(1,Aa0:Ab0,Aa1:Ab1)", 6},
            {"line(-9,Aa0:Ac0,Aa1:Ac1)", 9}, {"try(line(1,Aa0:Ab0,Aa1:Aa1),1)", 7}, {"try(line(1,Aa0:Ah0,Aa1:Ah1),1)", 8},
            {"try(line(1/0,Aa0:Ab0,Aa1:Ab1),1)", 6}, {"area(Aa0:Ab0,Aa1:Ab1)", 5}, {"try(area(Aa0:Ac0,Aa1:Ab1),1)", 8},
            {"f(1)", 3}, {"g(1,k,-1)", 6}, {"try(g(1,1/0,1),1)", 7}, {"root(f,-1,1)", 4 + 62 * 2}, {"try(root(f,1,2),1)", 9},
            {"try(root(f,1/0,2),1)", 6}, {"try(root(d,-1,1),1)", 4 + 1 + 1 + 4}, {"try(h(1),1)", 2 + 2 + 20 * 2},
        };
        for (Object[] one : all) {
            WorkEdgeTest t = new WorkEdgeTest("17 failure, STEPS of " + one[0]);
            t.fillers();
            t.function("f(a)=a", 4);
            t.function("g(a,b,c)=a", 5);
            t.function("h(a)=h(a)", 6);
            t.function("d(a)=1/0", 7);
            t.constant(3, "k=1", 0);
            t.takes((String) one[0], (Integer) one[1]);
        }
    }

    private void takes(String text, int steps) {
        for (int i = 0; i < 3; i++) {
            x.whole(i, i);
            x.whole(8 + i, 5 - i);
        }
        tell(59, "1/0");
        tell(254, filler(1000 - 2 - steps) + "+" + text);
        tell(255, filler(1000 - 1 - steps) + "+" + text);
        tell(253, filler(1000 - steps) + "+" + text);
        x.recalculate();
        due("with 999 of STEPS, state", x.state(254) == 1 || x.state(254) == 2 ? 1 : 0, 1);
        due("with 1000 of STEPS, state", x.state(255) == 1 || x.state(255) == 2 ? 1 : 0, 1);
        broken(253, 3, 8, 253, 0);
    }

    private void stepsOfConstants() {
        fillers();
        constant(0, "a=" + filler(1000), 0);
        constant(0, "b=" + filler(1000), 1);
        constant(0, "c=a+b", 2);
        constant(1, "a=" + filler(999), 0);
        constant(1, "b=" + filler(1001), 1);
        constant(1, "c=1", 2);
        constant(2, "a=try(" + filler(999) + ",1)", 0);
        constant(3, "a=try(" + filler(1000) + ",1)", 0);
        tell(0, filler(996) + "+a+b");
        tell(1, filler(997) + "+a+b");
        x.recalculate();
        due("1000 STEPS", x.named(0, 0, 0), 1);
        due("1000 STEPS again", x.named(0, 1, 0), 1);
        due("one that reads both", x.named(0, 2, 1), x.named(0, 0, 1) * 2);
        due("a FORMULA has 1000 of its own", x.state(0), 1);
        broken(1, 3, 8, 1, 0);
        due("999 STEPS", x.named(1, 0, 0), 1);
        due("1001 STEPS", x.named(1, 1, 0), 3);
        due("1001 STEPS", x.named(1, 1, 2), 8);
        due("it is not come to", x.named(1, 2, 0), 0);
        due("in a try 1000", x.named(2, 0, 0), 1);
        due("in a try 1001", x.named(3, 0, 2), 8);
    }

    /** What a cell took that is read counts there alone. */
    private void stepsOfCells() {
        fillers();
        tell(0, filler(1000));
        tell(1, filler(998) + "+Aa0");
        tell(2, filler(999) + "+Aa0");
        tell(3, "try(Ac0,2)+" + filler(996));
        tell(4, "try(Ac0,2)+" + filler(997));
        tell(5, "Ac0+" + filler(1001));
        x.recalculate();
        due("1000 STEPS", x.state(0), 1);
        due("1000 STEPS, by reading one of 1000", x.state(1), 1);
        broken(2, 3, 8, 2, 0);
        due("a try takes a SPENT that was read", x.state(3), 1);
        broken(4, 3, 8, 4, 0);
        broken(5, 5, 8, 2, 0);
    }

    /** Where no STEP is left for a cell, it is not read: what it is does not matter any more. */
    private void readsUntilSpent() {
        fillers();
        x.whole(0, 1);
        x.whole(1, 2);
        x.whole(2, 3);
        tell(3, "1/0");
        x.whole(8, 0);
        x.whole(9, 1);
        String[] texts = {"sum(Aa0:Ad0)", "count(Aa0:Ad0)", "line(1,Aa0:Ac0,Ad0:Af0)", "area(Aa0:Ac0,Ad0:Af0)", "at(Ad0:Ad0,0)", "Ad0"};
        int[] stepsAhead = {1 + 3, 1 + 3, 1 + 1 + 3, 1 + 3, 1 + 1, 0};
        int[] reads = {3, 3, 3, 3, 0, 0};
        for (int i = 0; i < texts.length; i++) {
            int spent = 64 + 2 * i;
            tell(spent, filler(999 - stepsAhead[i]) + "+" + texts[i]);
            tell(spent + 1, filler(998 - stepsAhead[i]) + "+" + texts[i]);
        }
        x.recalculate();
        for (int i = 0; i < texts.length; i++) {
            int spent = 64 + 2 * i;
            broken(spent, 3, 8, spent, 0);
            broken(spent + 1, 5, 1, 3, 0);
            int[] first = {0, 1, 2, 3};
            readsAre(spent, java.util.Arrays.copyOf(first, reads[i]));
            for (int k = 0; k < reads[i]; k++) {
                due("a read", x.trace(spent + 1, k), k);
            }
            due("the last read", x.trace(spent + 1, reads[i]), 3);
            due("behind it", x.trace(spent + 1, reads[i] + 1), -1);
        }
    }

    // ---- what FAILS

    private void whatTryTakes() {
        fillers();
        function("d(a)=d(a)", 4);
        function("i(a)=a", 5);
        function("p(a)=a*a*a*a*a*a*a*a*a*a*a*a*a*a*a*a", 6);
        function("u(a)=t(a)+t(a)+t(a)+t(a)+t(a)", 7);
        constant(1, "bad=1%0", 0);
        tell(0, "u(1)");
        tell(1, "Ab0");
        tell(64, "1");
        x.whole(8, 1);
        x.whole(9, 1);
        String[] failing = {
            "1/0", "at(Aa1:Ab1,2)", "Ah7", "d(1)", "Ac0*Ac0", "root(i,1,2)", "area(Aa1:Aa1,Aa1:Aa1)", "u(1)",
            "Ab0", "Ba0", "at(Aa1:Ab1,0.0)", "Aa0",
        };
        int[] kinds = {1, 2, 3, 4, 5, 6, 7, 8, 9, 10, 11, 8};
        int[] firsts = {-1, -1, -1, -1, -1, -1, -1, -1, 1, 64, -1, 0};
        x.number(60, Long.MIN_VALUE, 0);
        tell(2, "p(Ae7)");
        for (int i = 0; i < failing.length; i++) {
            tell(16 + i, failing[i]);
            tell(32 + i, "try(" + failing[i] + ",7)+try(8," + failing[i] + ")");
            tell(240 - i, "try(1/0," + failing[i] + ")");
        }
        x.recalculate();
        for (int i = 0; i < failing.length; i++) {
            int cause = i == 9 ? 1 : 0;
            int state = firsts[i] < 0 ? 3 : 5;
            broken(16 + i, state, kinds[i], firsts[i] < 0 ? 16 + i : firsts[i], cause);
            broken(240 - i, state, kinds[i], firsts[i] < 0 ? 240 - i : firsts[i], cause);
            if (i == 7) {
                broken(32 + i, 3, 8, 32 + i, 0);
            } else {
                due("a try takes kind " + kinds[i], x.value(32 + i), 15);
            }
        }
    }

    /** A try takes what FAILS in its x, not in its y and not behind it. */
    private void whereTryEnds() {
        fails("try(1,2)+1/0", 1);
        fails("try(1/0,2)+1%0", 1);
        fails("1/0+try(1,2)", 1);
        fails("try(1/0,Ah7)", 3);
        fails("try(1,2)/try(0,1)", 1);
        gives("try(try(1,2)+1/0,3)", 3);
        gives("try(try(1/0,2)+1/0,3)", 3);
        gives("try(try(1/0,1%0),4)", 4);
        fails("try(try(1/0,1%0),Ah7)", 3);
        fails("if(try(1/0,1),1/0,try(2,3))", 1);
        gives("try(1,2)+try(1/0,3)+try(4,1/0)", 8);
        function("f(a)=try(1/a,5)", 0);
        function("g(a)=f(0)+1/a", 1);
        fails("f(0)+1/0", 1);
        fails("g(0)", 1);
        gives("try(g(0),9)+g(1)", 9 + 6);
        gives("10*(1+try(2*(3+g(0)),7))", 80);
    }

    /** What FAILED deep in itself, again and again, leaves nothing behind for the next one. */
    private void behindFailed() {
        function("f(a)=a+(a+(a+(a+(a+(a+(a+(a+f(a))))))))", 0);
        for (int c = 0; c < 12; c++) {
            tell(c, "f(1)");
        }
        tell(12, "try(f(2),3)+4*(5+6*(7+8))");
        for (int i = 0; i < 3; i++) {
            x.whole(63, i);
            function("f(a)=a+(a+(a+(a+(a+(a+(a+(a+f(a))))))))", 0);
            x.recalculate();
            broken(11, 3, 4, 11, 0);
            due("value(12)", x.value(12), 3 + 4 * 95);
        }
    }

    /** What is in a PART is worked out from left to right, as far as nothing FAILS. */
    private void leftToRight() {
        x.whole(0, 1);
        function("g(a,b,c)=a", 0);
        function("c(a)=5", 1);
        fails("1/0+Ah7", 1);
        fails("Ah7+1/0", 3);
        fails("g(1,1%0,Ah7)", 1);
        fails("g(Ah7,1%0,1)", 3);
        fails("c(1/0)", 1);
        fails("at(Aa0:Ab0,Ah7)", 3);
        fails("at(Aa0:Ab0,1/0)", 1);
        fails("if(Ah7,1/0,1)", 3);
        fails("line(1/0,Ah7:Ah7,Ah7:Ah7)", 1);
        fails("root(c,1/0,Ah7)", 1);
        fails("root(c,Ah7,1/0)", 3);
        fails("(1/0)/0", 1);
        tell(9, "1/0");
        tell(10, "Ab1+Ah7");
        tell(11, "Ah7+Ab1");
        tell(12, "g(Aa0,Ab1,Ac1)+Ac1");
        x.recalculate();
        broken(10, 5, 1, 9, 0);
        readsAre(10, 9);
        broken(11, 3, 3, 11, 0);
        readsAre(11, 63);
        broken(12, 5, 1, 9, 0);
        readsAre(12, 0, 9);
    }

    // ---- numbers

    private void wrapping() {
        x.whole(0, Long.MIN_VALUE);
        x.whole(1, Long.MAX_VALUE);
        x.whole(2, 1L << 32);
        gives("Ab0+0", Long.MAX_VALUE);
        gives("Ab0+1", Long.MIN_VALUE);
        gives("Aa0-0", Long.MIN_VALUE);
        gives("Aa0-1", Long.MAX_VALUE);
        gives("Ab0--1", Long.MIN_VALUE);
        gives("Aa0+Aa0", 0);
        gives("Aa0*-1", Long.MIN_VALUE);
        gives("Ab0*-1", -Long.MAX_VALUE);
        gives("-Ab0", -Long.MAX_VALUE);
        gives("-Aa0", Long.MIN_VALUE);
        gives("Ac0*Ac0", 0);
        gives("Ac0*(Ac0-1)", -(1L << 32));
        gives("Aa0/-1", Long.MIN_VALUE);
        gives("Aa0%-1", 0);
        gives("(Aa0+1)/-1", Long.MAX_VALUE);
        gives("Aa0/1", Long.MIN_VALUE);
        gives("Aa0/2", Long.MIN_VALUE / 2);
        gives("Aa0%10", -8);
        gives("Ab0%-10", 7);
        gives("Ab0/Aa0", 0);
        gives("Ab0%Aa0", Long.MAX_VALUE);
        gives("Aa0/Ab0", -1);
        gives("Aa0%Ab0", -1);
        gives("-7/2", -3);
        gives("-7%2", -1);
        gives("7%-2", 1);
        gives("sum(Aa0:Ab0)", -1);
        gives("Aa0<Ab0", 1);
        gives("Ab0<=Aa0", 0);
    }

    /** A LONG as a DOUBLE is the nearest one, of two as near the even one. */
    private void nearest() {
        long even = 1L << 53;
        for (long v : new long[] {even - 1, even, even + 1, even + 2, even + 3, -even - 1, -even - 3, 2 * even + 2,
            2 * even + 3, 2 * even + 6, Long.MAX_VALUE, Long.MAX_VALUE - 511, Long.MAX_VALUE - 512, Long.MIN_VALUE}) {
            x.whole(0, v);
            gives("real(Aa0)", (double) v);
            gives("Aa0*1.0", (double) v);
            due("number", x.number(1, v, 0), 1);
            due("number(" + v + ")", x.value(1), Double.doubleToRawLongBits((double) v));
        }
        x.whole(0, even);
        x.whole(1, even + 1);
        x.number(2, even, 0);
        gives("Aa0<Ab0", 1);
        gives("Ac0<Ab0", 0);
        gives("Ac0=Ab0", 1);
        gives("Ab0<>Ac0", 0);
        gives("Aa0<>Ab0", 1);
        gives("Ab0<=Ac0", 1);
        gives("Ab0<=Aa0", 0);
    }

    private void comparisons() {
        String[] left = {"1", "2", "3", "-2"};
        for (String a : left) {
            for (String dots : new String[] {"2", "2.0", " 2", ".0"}) {
                String l = dots.startsWith(".") ? a + dots : a;
                String r = dots.startsWith(".") ? "2" : dots;
                int order = Integer.compare(Integer.parseInt(a), 2);
                gives(l + "<" + r, order < 0 ? 1 : 0);
                gives(l + "<=" + r, order <= 0 ? 1 : 0);
                gives(l + "=" + r, order == 0 ? 1 : 0);
                gives(l + "<>" + r, order != 0 ? 1 : 0);
            }
        }
        x = new LoadBook();
        gives("1.5<1.5", 0);
        gives("1.5<=1.5", 1);
        gives("1.5=1.5", 1);
        gives("1.5<>1.5", 0);
        gives("1.5<1.25", 0);
        gives("1.5<=1.25", 0);
        gives("1.5=1.25", 0);
        gives("1.5<>1.25", 1);
        // A REF is none of the SHEET's CONSTANTS, whatever its number.
        constant(3, "k=7", 0);
        constant(3, "l=8", 1);
        x.whole(0, 40);
        x.whole(1, 50);
        gives("Aa0+k", 47);
        gives("Ab0*2-l", 92);
    }

    private void divisors() {
        tell(0, "-0.0");
        tell(1, "1.0/999999999999999999");
        x.whole(2, 0);
        x.number(3, 0, 3);
        for (String sign : new String[] {"/", "%"}) {
            for (String zero : new String[] {"0", "0.0", "-0.0", "Aa0", "Ac0", "Ad0", "(1-1)", "(0.5-0.5)"}) {
                fails("1" + sign + zero, 1);
                fails("1.5" + sign + zero, 1);
            }
            fails("0" + sign + "0", 1);
            fails("0.0" + sign + "0.0", 1);
        }
        x.recalculate();
        gives("0/1", 0);
        gives("0%-1", 0);
        gives("1/1", 1);
        gives("1.0/Ab0", 1 / (1.0 / 999999999999999999.0));
        gives("1%Ab0", 1 % (1.0 / 999999999999999999.0));
        gives("0/Ab0", 0.0);
        gives("-0.0/Ab0", -0.0);
    }

    /** Cells with the greatest DOUBLE (Aa0), powers of 2 near its last place, and the least above 0 (Ad0). */
    private void greatDoubles() {
        function("p(a)=a*a*a*a*a*a*a*a*a*a*a*a*a*a*a*a", 0);
        x.number(63, 1L << 60, 0);
        x.whole(62, (1L << 53) - 1);
        tell(0, "p(Ah7)*2048*Ag7");
        tell(1, "p(Ah7)*1024");
        tell(2, "p(Ah7)*512");
        tell(3, "1/p(Ah7)/1125899906842624/18014398509481984/1024");
        tell(4, "1+1.0/4503599627370496");
        tell(5, "1-1.0/9007199254740992");
        x.recalculate();
        double[] want = {GREATEST, Math.scalb(1.0, 970), Math.scalb(1.0, 969), Double.MIN_VALUE, 1 + ULP_OF_1, 1 - ULP_OF_1 / 2};
        for (int i = 0; i < want.length; i++) {
            due("cell " + i, x.value(i), Double.doubleToRawLongBits(want[i]));
        }
    }

    private void beyond() {
        greatDoubles();
        // Half of the last place of the greatest is just too much, as the even one of two as near.
        gives("Aa0+0", GREATEST);
        gives("Aa0+Ac0", GREATEST);
        fails("Aa0+Ab0", 5);
        gives("-Aa0-Ac0", -GREATEST);
        fails("-Aa0-Ab0", 5);
        gives("Aa0*1", GREATEST);
        gives("Aa0*Af0", GREATEST * (1 - ULP_OF_1 / 2));
        fails("Aa0*Ae0", 5);
        fails("Aa0*-Ae0", 5);
        gives("Aa0/1", GREATEST);
        gives("Aa0/Ae0", GREATEST / (1 + ULP_OF_1));
        fails("Aa0/Af0", 5);
        fails("1/Ad0", 5);
        fails("-Aa0/Ad0", 5);
        gives("Aa0%Ad0", 0.0);
        gives("-Aa0%Aa0", -0.0);
        gives("Aa0-Aa0", 0.0);
        gives("Ad0/2", 0.0);
        gives("-Ad0*0.5", -0.0);
        gives("Ad0*0.75", Double.MIN_VALUE);
        gives("Aa0<Aa0+Ac0", 0);
        fails("Aa0<Aa0+Ab0", 5);
        gives("try(Aa0+Ab0,3)", 3);
    }

    private void cuts() {
        x.number(0, Long.MAX_VALUE, 0);
        x.number(1, Long.MIN_VALUE, 0);
        x.number(2, Long.MAX_VALUE - 1023, 0);
        x.number(3, Long.MIN_VALUE + 1024, 0);
        gives("cut(Aa0)", Long.MAX_VALUE);
        gives("cut(Aa0*2)", Long.MAX_VALUE);
        gives("cut(Ac0)", Long.MAX_VALUE - 1023);
        gives("cut(Ab0)", Long.MIN_VALUE);
        gives("cut(Ab0*2)", Long.MIN_VALUE);
        gives("cut(Ab0-2048)", Long.MIN_VALUE);
        gives("cut(Ad0)", Long.MIN_VALUE + 1024);
        gives("cut(0.99999999999999)", 0);
        gives("cut(-0.99999999999999)", 0);
        gives("cut(1.0)", 1);
        gives("cut(-1.0)", -1);
        gives("cut(1.99999999999999)", 1);
        gives("cut(0.0)", 0);
        gives("1/try(1/cut(-0.0),5)", 0);
        x.whole(4, Long.MAX_VALUE);
        gives("cut(Ae0)", Long.MAX_VALUE);
        gives("cut(-Ae0-1)", Long.MIN_VALUE);
    }

    /** 0s have signs, are alike when compared, and each of them is 0 to an if. */
    private void zeros() {
        greatDoubles();
        gives("0-0.0", 0.0);
        gives("-0.0", -0.0);
        gives("-0", 0);
        gives("--0.0", 0.0);
        gives("-0.0+0.0", 0.0);
        gives("-0.0+-0.0", -0.0);
        gives("0.0*-1", -0.0);
        gives("-0.0*-1", 0.0);
        gives("0/-5.0", -0.0);
        gives("-4.0%2", -0.0);
        gives("4.0%-2", 0.0);
        gives("-0.0%3", -0.0);
        gives("real(-0)", 0.0);
        gives("-0.0<0.0", 0);
        gives("-0.0<0", 0);
        gives("0<=-0.0", 1);
        gives("-0.0=0", 1);
        gives("-0.0<>0.0", 0);
        gives("-Ad0<-0.0", 1);
        gives("0<Ad0", 1);
        gives("if(0,1,2)", 2);
        gives("if(0.0,1,2)", 2);
        gives("if(-0.0,1,2)", 2);
        gives("if(Ad0,1,2)", 1);
        gives("if(-Ad0,1,2)", 1);
        gives("if(-1,1,2)", 1);
    }

    // ---- R

    private void folds() {
        gives("sum(Aa0:Aa0)", 0);
        gives("count(Aa0:Aa0)", 0);
        fails("least(Aa0:Aa0)", 3);
        fails("most(Aa0:Aa0)", 3);
        x.number(1, 5, 1);
        gives("sum(Aa0:Aa0)", 0);
        gives("sum(Aa0:Ab0)", 0.5);
        gives("count(Aa0:Ab0)", 1);
        gives("least(Aa0:Ab0)", 0.5);
        gives("most(Aa0:Ab0)", 0.5);
        gives("most(Ab0:Ab0)", 0.5);
        for (int i = 0; i < 64; i++) {
            x.whole(64 + i, i);
        }
        gives("count(Ba0:Bh7)", 64);
        gives("sum(Ba0:Bh7)", 2016);
        gives("least(Ba0:Bh7)", 0);
        gives("most(Ba0:Bh7)", 63);
        x.empty(64);
        x.empty(127);
        gives("count(Ba0:Bh7)", 62);
        gives("least(Ba0:Bh7)", 1);
        gives("most(Ba0:Bh7)", 62);
        x.number(127, 1, 0);
        x.number(64, 62, 0);
        // Of two that are alike the first one stays, whichever is a LONG.
        gives("least(Ba0:Bh7)", 1);
        gives("most(Ba0:Bh7)", 62.0);
        x.whole(0, (1L << 53) + 1);
        x.number(1, 1L << 53, 0);
        x.whole(2, 1L << 53);
        gives("least(Aa0:Ab0)", (1L << 53) + 1);
        gives("least(Aa0:Ac0)", 1L << 53);
        gives("least(Ab0:Ac0)", 9007199254740992.0);
        gives("most(Ab0:Ac0)", 9007199254740992.0);
    }

    /** In sum, least, most what is told is done as each one is read: what FAILS first is what is told. */
    private void asEachIsRead() {
        greatDoubles();
        tell(8, "Aa0");
        tell(9, "Aa0");
        tell(10, "1/0");
        tell(16, "Aa0");
        tell(17, "-Aa0");
        tell(18, "Aa0");
        tell(24, "sum(Aa1:Ac1)");
        tell(25, "sum(Aa2:Ac2)");
        tell(26, "least(Aa1:Ac1)");
        tell(27, "count(Aa1:Ac1)");
        tell(28, "sum(Ab1:Ac1)");
        tell(29, "sum(Ac1:Ah1)");
        tell(30, "area(Aa1:Ac1,Aa1:Ac1)");
        tell(31, "line(-Aa0,Aa1:Ab1,Ac1:Ad1)");
        x.recalculate();
        broken(24, 3, 5, 24, 0);
        readsAre(24, 8, 9);
        due("MAX less MAX plus MAX", x.value(25), Double.doubleToRawLongBits(GREATEST));
        broken(26, 5, 1, 10, 0);
        readsAre(26, 8, 9, 10);
        broken(27, 5, 1, 10, 0);
        broken(28, 5, 1, 10, 0);
        broken(29, 5, 1, 10, 0);
        readsAre(29, 10);
        broken(30, 5, 1, 10, 0);
        readsAre(30, 8, 9, 10);
        broken(31, 5, 1, 10, 0);
        readsAre(31, 0, 8, 9, 10);
    }

    private void places() {
        for (int i = 0; i < 64; i++) {
            x.whole(i, 100 + i);
        }
        x.whole(64, Long.MIN_VALUE);
        x.whole(65, Long.MAX_VALUE);
        gives("at(Ac2:Ac2,0)", 118);
        fails("at(Ac2:Ac2,1)", 2);
        fails("at(Ac2:Ac2,-1)", 2);
        gives("at(Aa0:Ah7,0)", 100);
        gives("at(Aa0:Ah7,63)", 163);
        fails("at(Aa0:Ah7,64)", 2);
        fails("at(Aa0:Ah7,-1)", 2);
        gives("at(Ab1:Ad2,2)", 111);
        gives("at(Ab1:Ad2,3)", 117);
        gives("at(Ab1:Ad2,5)", 119);
        fails("at(Ab1:Ad2,6)", 2);
        fails("at(Ab1:Ad2,Ba0)", 2);
        fails("at(Ab1:Ad2,Bb0)", 2);
        fails("at(Ab1:Ad2,4294967296)", 2);
        fails("at(Ab1:Ad2,4294967297)", 2);
        fails("at(Ab1:Ad2,0.0)", 11);
        fails("at(Ab1:Ad2,-0.0)", 11);
        fails("at(Ab1:Ad2,99.5)", 11);
        gives("at(Ab1:Ad2,cut(5.5))", 119);
        // That cell alone is read.
        x.empty(17);
        gives("at(Ab1:Ad2,2)", 111);
        fails("at(Ab1:Ad2,3)", 3);
        readsAre(255, 17);
    }

    private void besideNumbers() {
        greatDoubles();
        x.number(8, 1, 0);
        x.number(9, 2, 0);
        x.whole(10, 4);
        x.whole(16, 10);
        x.number(17, 3, 0);
        x.number(18, 55, 1);
        String table = ",Aa1:Ac1,Aa2:Ac2)";
        gives("line(Af0" + table, 10.0);
        gives("line(1" + table, 10.0);
        double t = ULP_OF_1 / 1.0;
        gives("line(Ae0" + table, 10 + (3.0 - 10) * t);
        gives("line(2*Af0" + table, 10 + (3.0 - 10) * ((2 - ULP_OF_1) - 1));
        gives("line(2" + table, 3.0);
        gives("line(2*Ae0" + table, 3 + (5.5 - 3) * (2 * ULP_OF_1 / 2));
        gives("line(4*Af0" + table, 3 + (5.5 - 3) * ((4 - 2 * ULP_OF_1 - 2) / 2));
        gives("line(4" + table, 5.5);
        gives("line(4*Ae0" + table, 5.5);
        gives("line(-Aa0" + table, 10.0);
        gives("line(Aa0" + table, 5.5);
        gives("line(1,Aa1:Ab1,Aa2:Ab2)", 10.0);
        gives("line(3,Aa1:Ab1,Aa2:Ab2)", 3.0);
        // At an inner number of R the next one is looked at as well: b - a is told ahead of times t.
        tell(33, "-Aa0");
        tell(34, "Aa0");
        x.whole(32, 3);
        fails("line(2,Aa1:Ac1,Aa4:Ac4)", 5);
        fails("line(3,Aa1:Ac1,Aa4:Ac4)", 5);
        gives("line(1,Aa1:Ac1,Aa4:Ac4)", 3.0);
        gives("line(4,Aa1:Ac1,Aa4:Ac4)", GREATEST);
        tell(33, "-Ac0");
        gives("line(2,Aa1:Ac1,Aa4:Ac4)", -Math.scalb(1.0, 969));
        tell(33, "-Ab0");
        fails("line(2,Aa1:Ac1,Aa4:Ac4)", 5);
        // 0s are alike, and a -0.0 in S stays what it is.
        tell(24, "-0.0");
        x.whole(25, 1);
        gives("line(0,Aa3:Ab3,Aa3:Ab3)", -0.0);
        gives("line(-0.0,Aa3:Ab3,Aa3:Ab3)", -0.0);
    }

    private void tables() {
        greatDoubles();
        x.number(8, 1, 0);
        x.number(9, 1, 0);
        x.number(16, 1, 0);
        x.number(17, 2, 0);
        x.number(18, 3, 0);
        // Not above the one before it: like it, beneath it; just above it is enough.
        fails("line(0,Aa1:Ab1,Aa2:Ab2)", 7);
        fails("line(9,Aa1:Ab1,Aa2:Ab2)", 7);
        tell(9, "Ae0");
        gives("line(0,Aa1:Ab1,Aa2:Ab2)", 1.0);
        gives("line(9,Aa1:Ab1,Aa2:Ab2)", 2.0);
        tell(9, "Af0");
        fails("line(0,Aa1:Ab1,Aa2:Ab2)", 7);
        x.whole(8, 1L << 53);
        x.whole(9, (1L << 53) + 1);
        fails("line(0,Aa1:Ab1,Aa2:Ab2)", 7);
        x.whole(9, (1L << 53) + 2);
        gives("line(0,Aa1:Ab1,Aa2:Ab2)", 1.0);
        // 0s of both signs are alike.
        x.number(8, 0, 0);
        tell(9, "-0.0");
        fails("line(0,Aa1:Ab1,Aa2:Ab2)", 7);
        // The last of three.
        x.number(24, 1, 0);
        x.number(25, 2, 0);
        x.number(26, 2, 0);
        fails("line(1,Aa3:Ac3,Aa2:Ac2)", 7);
        gives("line(1,Aa3:Ab3,Aa2:Ab2)", 1.0);
        // Numbers of cells.
        fails("line(1,Aa2:Aa2,Aa2:Aa2)", 7);
        fails("line(1,Aa2:Ac2,Aa2:Ab2)", 7);
        fails("line(1,Aa2:Ab2,Aa2:Ac2)", 7);
        fails("line(1,Aa2:Ab2,Aa2:Aa2)", 7);
        fails("area(Aa2:Aa2,Aa2:Aa2)", 7);
        fails("area(Aa2:Ac2,Aa2:Ab2)", 7);
        fails("area(Aa2:Ab2,Aa2:Ac2)", 7);
        gives("area(Aa2:Ab2,Aa2:Ab2)", 1.5);
        gives("area(Ab2:Ac2,Aa2:Aa3)", 1.0);
        // All is read ahead of that.
        fails("line(1,Aa2:Ab2,Ac2:Ae2)", 3);
        fails("line(1,Ah6:Ah6,Aa2:Ab2)", 3);
        fails("area(Aa2:Aa2,Ah6:Ah6)", 3);
        fails("area(Ah6:Ah6,Aa2:Aa2)", 3);
        fails("line(1,Aa2:Ab2,Ac2:Ad2)", 3);
    }

    private void areas() {
        greatDoubles();
        x.whole(8, 5);
        x.whole(9, 5);
        x.whole(10, 2);
        x.whole(16, 7);
        x.whole(17, 1);
        x.whole(18, 4);
        // R needs no order, and what is alike in it adds nothing.
        gives("area(Aa1:Ab1,Aa2:Ab2)", 0.0);
        gives("area(Aa1:Ac1,Aa2:Ac2)", -3 * 5 / 2.0);
        // From 0.0 on: a -0.0 that is added leaves it.
        x.whole(16, -7);
        x.whole(17, 1);
        gives("area(Aa1:Ab1,Aa2:Ab2)", 0.0);
        // The product comes ahead of the half: half of the least above 0 is 0.
        x.whole(24, 0);
        tell(25, "Ad0");
        x.whole(32, 0);
        x.whole(33, 1);
        gives("area(Aa3:Ab3,Aa4:Ab4)", 0.0);
        x.whole(33, 2);
        gives("area(Aa3:Ab3,Aa4:Ab4)", Double.MIN_VALUE);
        x.whole(33, 3);
        gives("area(Aa3:Ab3,Aa4:Ab4)", 2 * Double.MIN_VALUE);
        // Just not infinite, and just infinite: q - p, a + b, the product, the sum.
        x.whole(24, 0);
        tell(25, "Aa0");
        x.whole(32, 1);
        x.whole(33, 0);
        gives("area(Aa3:Ab3,Aa4:Ab4)", GREATEST / 2);
        tell(32, "Ae0");
        fails("area(Aa3:Ab3,Aa4:Ab4)", 5);
        tell(24, "-Ac0");
        tell(32, "0.0");
        gives("area(Aa3:Ab3,Aa4:Ab4)", 0.0);
        tell(24, "-Ab0");
        fails("area(Aa3:Ab3,Aa4:Ab4)", 5);
        gives("area(Aa4:Ab4,Ac0:Ac1)", 0.0);
        tell(40, "Aa0");
        tell(41, "Ac0");
        gives("area(Aa4:Ab4,Aa5:Ab5)", 0.0);
        tell(41, "Ab0");
        fails("area(Aa4:Ab4,Aa5:Ab5)", 5);
    }

    private static double halved(double low, double high, boolean lowIsBelow, double edge) {
        for (int i = 0; i < 60; i++) {
            double m = low + (high - low) * 0.5;
            if (m < edge == lowIsBelow) {
                low = m;
            } else {
                high = m;
            }
        }
        return low + (high - low) * 0.5;
    }

    private void roots() {
        greatDoubles();
        function("i(a)=a", 1);
        function("n(a)=-a", 2);
        function("z(a)=if(a<0,-0.0,if(a<2,0,-1))", 3);
        function("w(a)=if(a<=1,-5,7)", 4);
        // 60 halvings: the one before and the one behind give another number.
        gives("root(i,-1,3)", halved(-1, 3, true, 0));
        gives("root(i,3,-1)", halved(3, -1, false, 0));
        gives("root(w,0,3)", halved(0, 3, true, Math.nextUp(1.0)));
        // Below 0, or not: a 0 of either sign is not.
        fails("root(i,0,1)", 6);
        fails("root(i,-0.0,1)", 6);
        gives("root(i,-Ad0,1)", halved(-Double.MIN_VALUE, 1, true, 0));
        gives("root(i,0,-1)", halved(0, -1, false, 0));
        gives("root(i,-1,0)", halved(-1, 0, true, 0));
        fails("root(i,-1,-Ad0)", 6);
        fails("root(i,1,1)", 6);
        fails("root(z,-1,1)", 6);
        gives("root(z,-1,2)", 2.0);
        gives("root(n,0,Ad0)", 0.0);
        // The width is just not infinite, or is; but one sign alone is told first.
        gives("root(i,-Aa0,Ac0)", halved(-GREATEST, Math.scalb(1.0, 969), true, 0));
        fails("root(i,-Aa0,Ab0)", 5);
        fails("root(i,Aa0,Aa0)", 6);
        function("o(a)=1", 5);
        fails("root(o,-Aa0,Aa0)", 6);
        // What f gives is looked at as a DOUBLE, what it is given is one.
        function("l(a)=cut(a)", 6);
        gives("root(l,-4,4)", halved(-4, 4, true, Math.nextUp(-1.0)));
        // f FAILS at its ends, or at an m.
        function("e(a)=1/(a-1)", 7);
        fails("root(e,1,2)", 1);
        fails("root(e,0,1)", 1);
        fails("root(e,0,2)", 1);
        gives("try(root(e,0,2),3)", 3);
    }

    private void deep() {
        function("f(a)=if(a<=1,1,1+f(a-1))", 0);
        gives("f(19)", 19);
        gives("f(20)", 20);
        fails("f(21)", 4);
        function("one(a)=a", 1);
        function("o(a)=if(a<=1,one(7),o(a-1))", 2);
        gives("o(19)", 7);
        fails("o(20)", 4);
        function("r(a)=if(a<=1,root(one,-1,1),r(a-1))", 3);
        due("a root's own CALL is the 20th", workedOut("r(19)"), 2);
        fails("r(20)", 4);
        // A root in a root is none: its CALLS are.
        function("in(a)=a+root(one,-1,1)*0", 4);
        function("q(a)=if(a<=1,in(a),q(a-1))", 5);
        due("the 20th", workedOut("q(18)"), 2);
        fails("q(19)", 4);
        // ARGUMENTS are worked out ahead of their CALL.
        gives("one(f(20))", 20);
        gives("f(f(f(20)))", 20);
        function("m(a)=if(a<=1,one(one(one(1))),m(a-1))", 6);
        gives("m(19)", 1);
        // A try stands where it stood.
        function("t(a)=try(1+t(a),0)", 7);
        gives("t(1)", 19);
        gives("t(1)+f(20)+t(1)", 58);
        constant(0, "c=f(20)", 0);
        constant(1, "c=f(21)", 0);
        x.recalculate();
        due("20 in a CONSTANT", x.named(0, 0, 1), 20);
        due("21 in a CONSTANT", x.named(1, 0, 2), 4);
    }

    private int workedOut(String text) {
        tell(255, text);
        x.recalculate();
        return x.state(255);
    }

    // ---- recalculating

    private void again(int... want) {
        due("recalculate()", x.recalculate(), want.length);
        doneAre(want);
    }

    /** Each reason for which a cell is CHANGED, and beside it what is none. */
    private void changed() {
        function("f(a)=a", 0);
        function("g(a)=f(a)", 1);
        function("alone(a)=alone(a)", 2);
        constant(0, "k=1", 0);
        constant(1, "k=g(1)", 0);
        tell(10, "Aa0");
        tell(11, "Ac1");
        tell(12, "try(1,alone(1))");
        tell(13, "g(1)");
        tell(64, "5");
        tell(128, "Ba0");
        tell(129, "Ca7");
        again(10, 11, 12, 13, 64, 128, 129);
        again();
        x.whole(1, 4);
        again();
        x.whole(0, 4);
        again(10, 11);
        x.whole(0, 4);
        again(10, 11);
        x.number(0, 4, 0);
        again(10, 11);
        x.empty(0);
        again(10, 11);
        x.empty(0);
        again();
        x.whole(128 + 56, 1);
        again(129);
        tell(11, "Ac1");
        again(11);
        tell(10, "2");
        again(10, 11);
        x.whole(10, 3);
        again(11);
        function("alone(a)=a", 2);
        again(12);
        function("g(a)=f(a)", 1);
        again(13, 64, 128);
        function("f(a)=a", 0);
        again(13, 64, 128);
        function("f(a)=b", -104);
        again();
        constant(0, "k=1", 0);
        again(11, 12, 13);
        constant(2, "k=1", 0);
        again(128, 129);
        constant(3, "k=1", 0);
        again();
        due("count(11)", x.count(11), 2);
        due("count(12)", x.count(12), 3);
        due("count(13)", x.count(13), 1);
        due("count(14)", x.count(14), 1);
    }

    private void spoiled() {
        fillers();
        function("d(a)=d(a)", 4);
        function("i(a)=a", 5);
        function("p(a)=a*a*a*a*a*a*a*a*a*a*a*a*a*a*a*a", 6);
        String[] bad = {"1/0", "1%0.0", "d(1)", "root(i,1,2)", filler(1001), "p(p(1000000.0))"};
        int[] kinds = {1, 1, 4, 6, 8, 5};
        tell(192, "5");
        tell(193, "Da0");
        tell(194, "try(Da0,9)");
        tell(0, "Da0");
        tell(1, "try(Da0,9)");
        for (int i = 0; i < bad.length; i++) {
            constant(3, "k=" + bad[i], 0);
            again(192, 0, 1, 193, 194);
            due("kind of the CONSTANT", x.named(3, 0, 2), kinds[i]);
            due("state of the CONSTANT", x.named(3, 0, 0), 3);
            due("value of the CONSTANT", x.named(3, 0, 1), 0);
            broken(192, 3, 10, 192, kinds[i]);
            broken(193, 3, 10, 193, kinds[i]);
            broken(194, 3, 10, 194, kinds[i]);
            broken(0, 5, 10, 192, kinds[i]);
            due("a try takes it", x.value(1), 9);
            readsAre(193);
            readsAre(0, 192);
        }
        constant(3, "k=try(1/0,1)", 0);
        again(192, 0, 1, 193, 194);
        due("not SPOILED any more", x.value(0), 5);
        due("kind", x.named(3, 0, 2), 0);
        readsAre(193, 192);
        // The first that FAILS is the cause; one behind it is not come to.
        constant(3, "l=1/0", 1);
        constant(3, "m=d(1)", 2);
        again(192, 0, 1, 193, 194);
        broken(192, 3, 10, 192, 1);
        due("not come to", x.named(3, 2, 0), 0);
        due("ahead of it", x.named(3, 0, 1), 1);
        due("count(14)", x.count(14), 8);
    }

    private void cycleInSpoiled() {
        constant(1, "k=1/0", 0);
        tell(64, "Bb0");
        tell(65, "Ba0");
        tell(66, "Ba0");
        tell(0, "Bc0");
        tell(1, "try(Ba0,Bc0)");
        again(64, 65, 66, 0, 1);
        broken(64, 4, 9, 64, 0);
        broken(65, 4, 9, 64, 0);
        broken(66, 3, 10, 66, 1);
        broken(0, 5, 10, 66, 1);
        broken(1, 5, 10, 66, 1);
        readsAre(1, 64, 66);
        readsAre(64);
        readsAre(66);
    }

    // ---- looking

    private void doneOfAll() {
        for (int c = 0; c < 48; c++) {
            tell(c, c < 47 ? "A" + "abcdefgh".charAt((c + 1) % 8) + (c + 1) / 8 : "1");
        }
        due("recalculate()", x.recalculate(), 48);
        for (int i = 0; i < 48; i++) {
            due("done(" + i + ")", x.done(i), 47 - i);
        }
        due("done(48)", x.done(48), -1);
        due("done(-1)", x.done(-1), -1);
        due("done of the greatest", x.done(Integer.MAX_VALUE), -1);
        due("done of the least", x.done(Integer.MIN_VALUE), -1);
        due("value(0)", x.value(0), 1);
        x.whole(47, 2);
        due("done(0) stays until the next one", x.done(0), 47);
        due("recalculate()", x.recalculate(), 47);
        due("done(0)", x.done(0), 46);
        due("done(46)", x.done(46), 0);
        due("done(47)", x.done(47), -1);
        due("recalculate()", x.recalculate(), 0);
        due("done(0)", x.done(0), -1);
    }

    private void cyclesBySize() {
        tell(20, "Ae2");
        tell(40, "Ab5");
        tell(41, "Ac5+Ae5");
        tell(42, "Aa5");
        tell(44, "1");
        tell(45, "Aa5");
        x.recalculate();
        due("count(4)", x.count(4), 2);
        due("one", x.cycle(0, 0), 20);
        due("one", x.cycle(0, 1), -1);
        due("three", x.cycle(1, 0), 40);
        due("three", x.cycle(1, 1), 41);
        due("three", x.cycle(1, 2), 42);
        due("three", x.cycle(1, 3), -1);
        due("cycle(2, 0)", x.cycle(2, 0), -1);
        due("cycle(-1, 0)", x.cycle(-1, 0), -1);
        due("cycle(0, -1)", x.cycle(0, -1), -1);
        due("cycle of the greatest", x.cycle(Integer.MAX_VALUE, Integer.MAX_VALUE), -1);
        due("cycle(0, the greatest)", x.cycle(0, Integer.MAX_VALUE), -1);
        due("cycle of the least", x.cycle(Integer.MIN_VALUE, Integer.MIN_VALUE), -1);
        broken(42, 4, 9, 40, 0);
        broken(45, 5, 9, 40, 0);
        due("state(44)", x.state(44), 1);
        // A CYCLE that is not CHANGED is there all the same.
        tell(44, "2");
        again(40, 41, 42, 44, 45);
        due("count(4)", x.count(4), 2);
        due("20 was not done", x.cycle(0, 0), 20);
        x.whole(41, 1);
        again(40, 42, 45);
        due("count(4)", x.count(4), 1);
        due("cycle(0, 0)", x.cycle(0, 0), 20);
        due("cycle(1, 0)", x.cycle(1, 0), -1);
    }

    private void readsKept() {
        tell(100, "sum(Aa2:Ah3)+sum(Aa4:Ag4)");
        tell(101, "sum(Aa2:Ah4)");
        tell(102, "sum(Aa2:Ah4)+sum(Aa5:Aa5)");
        tell(103, "sum(Aa2:Ah4)+Aa5+1/0");
        tell(104, "sum(Aa2:Ah4)*count(Aa2:Ah4)");
        due("none yet", x.trace(101, 0), -1);
        x.recalculate();
        int[] reads = {23, 24, 24, 24, 24};
        for (int i = 0; i < reads.length; i++) {
            due("trace(-1)", x.trace(100 + i, -1), -1);
            for (int k = 0; k < reads[i]; k++) {
                due("trace(" + (100 + i) + ", " + k + ")", x.trace(100 + i, k), 16 + k);
            }
            due("behind the last", x.trace(100 + i, reads[i]), -1);
            due("behind that", x.trace(100 + i, reads[i] + 1), -1);
            due("the greatest", x.trace(100 + i, Integer.MAX_VALUE), -1);
            due("the least", x.trace(100 + i, Integer.MIN_VALUE), -1);
        }
        due("the 24th is the last of the R", x.state(101), 1);
        broken(103, 3, 3, 103, 0);
        tell(101, "Aa5");
        readsAre(101);
        x.whole(102, 1);
        readsAre(102);
        formula(100, "1+", -102);
        due("they stay when a FORMULA is refused", x.trace(100, 22), 38);
    }

    private void editionsKept() {
        tell(1, "Aa0+0.5");
        for (int n = 1; n <= 12; n++) {
            x.whole(0, n);
            due("ahead of it", x.old(n, 0, 1), -3);
            x.recalculate();
            due("count(0)", x.count(0), n);
            due("the latest", x.old(n, 0, 1), n);
            due("the latest", x.old(n, 1, 1), Double.doubleToRawLongBits(n + 0.5));
            due("the latest", x.old(n, 1, 0), 2);
            due("the next", x.old(n + 1, 0, 1), -3);
            due("the tenth of the latest", x.old(n - 9, 0, 1), n > 9 ? n - 9 : -3);
            due("the eleventh of the latest", x.old(n - 10, 0, 1), -3);
            due("EDITION 0", x.old(0, 0, 1), -3);
        }
        x.recalculate();
        due("one in which nothing was DONE", x.old(13, 0, 1), 12);
        due("the tenth of the latest", x.old(4, 0, 1), 4);
        due("the eleventh of the latest", x.old(3, 0, 1), -3);
        tell(0, "Aa0");
        x.empty(1);
        due("as it was behind it", x.old(13, 0, 0), 1);
        due("as it was behind it", x.old(13, 1, 0), 2);
        x.recalculate();
        due("on a CYCLE", x.old(14, 0, 0), 4);
        due("without a VALUE", x.old(14, 0, 1), 0);
        due("EMPTY", x.old(14, 1, 0), 0);
        due("EMPTY", x.old(14, 1, 1), 0);
        due("the one before", x.old(13, 1, 1), Double.doubleToRawLongBits(12.5));
    }

    private void countEnds() {
        int[] none = {-1, 15, 16, Integer.MIN_VALUE, Integer.MAX_VALUE};
        for (int what : none) {
            due("count(" + what + ")", x.count(what), -1);
        }
        for (int s = 0; s < 4; s++) {
            for (int k = 0; k <= s; k++) {
                constant(s, (char) ('a' + k) + "=1", k);
            }
        }
        for (int s = 0; s < 4; s++) {
            due("count(" + (7 + s) + ")", x.count(7 + s), s + 1);
            due("not worked out yet", x.count(11 + s), 0);
        }
        x.recalculate();
        for (int n = 1; n < 4; n++) {
            constant(n, "a=" + (n == 2 ? "1/0" : "2"), 0);
            x.recalculate();
            for (int s = 0; s < 4; s++) {
                due("count(" + (11 + s) + ")", x.count(11 + s), s >= 1 && s <= n ? 2 : 1);
            }
        }
    }
}
