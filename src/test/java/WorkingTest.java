/** Promises 14 to 25: ordinary inputs, the edges that the document names, and wrong inputs. */
public final class WorkingTest extends Checks {
    private static final double GREATEST = Double.MAX_VALUE;

    private WorkingTest(String name) {
        super(name);
    }

    public static void main(String[] args) {
        new WorkingTest("14 recalculate").recalculating();
        new WorkingTest("14 recalculate, constants").recalculatingConstants();
        new WorkingTest("14 recalculate, functions").recalculatingFunctions();
        new WorkingTest("15 state").states();
        new WorkingTest("16 value, LONGS").longs();
        new WorkingTest("16 value, DOUBLES").doubles();
        new WorkingTest("16 value, remainders").remainders();
        new WorkingTest("16 value, great and tiny").extremes();
        new WorkingTest("16 value, comparisons").comparisons();
        new WorkingTest("16 value, guards").guards();
        new WorkingTest("16 value, R").ranges();
        new WorkingTest("16 value, line").lines();
        new WorkingTest("16 value, R of 64 cells").wholeSheets();
        new WorkingTest("16 value, area").areas();
        new WorkingTest("16 value, root").roots();
        new WorkingTest("17 failure").failures();
        new WorkingTest("17 failure, SPENT").spending();
        new WorkingTest("17 failure, SPENT by reading").spentElsewhere();
        new WorkingTest("17 failure, DEEP").depths();
        new WorkingTest("18 done").doneOrder();
        new WorkingTest("19 needs").needing();
        new WorkingTest("20 neededBy").neededness();
        new WorkingTest("21 cycle").cycles();
        new WorkingTest("22 trace").traces();
        new WorkingTest("23 named").namedOnes();
        new WorkingTest("24 old").oldEditions();
        new WorkingTest("25 count").counts();
        end("WorkingTest");
    }

    private void again(int... want) {
        due("recalculate()", x.recalculate(), want.length);
        doneAre(want);
    }

    private void recalculating() {
        again();
        x.whole(0, 5);
        again();
        tell(1, "Aa0+1");
        tell(2, "Ab0*2");
        tell(3, "7");
        again(1, 2, 3);
        due("value(2)", x.value(2), 12);
        again();
        x.whole(0, 5);
        again(1, 2);
        x.whole(9, 1);
        again();
        due("a failed call changes nothing", x.number(0, 1, 16), -2);
        again();
        formula(1, "1+", -102);
        again();
        tell(1, "Aa0+1");
        again(1, 2);
        x.whole(1, 40);
        again(2);
        due("value(2)", x.value(2), 80);
        x.empty(1);
        again(2);
        broken(2, 3, 3, 2, 0);
        x.empty(1);
        again();
        // A need stands in whichever PART, also one that is not worked out.
        tell(4, "if(1,2,Ah7)");
        again(4);
        x.whole(63, 1);
        again(4);
        // Told and taken back: what needs the cell is CHANGED all the same.
        tell(63, "1");
        x.empty(63);
        again(4);
        due("count(0)", x.count(0), 15);
    }

    private void recalculatingConstants() {
        tell(0, "1");
        tell(70, "Aa0");
        tell(71, "2");
        tell(130, "Bh0");
        again(0, 70, 71, 130);
        constant(0, "k=1", 0);
        again(0, 70);
        constant(1, "k=1", 0);
        again(70, 71, 130);
        due("count(11)", x.count(11), 1);
        due("count(12)", x.count(12), 1);
        constant(1, "l=k/0", 1);
        constant(1, "m=1.5", 2);
        again(70, 71, 130);
        broken(70, 3, 10, 70, 1);
        broken(71, 3, 10, 71, 1);
        broken(130, 5, 10, 71, 1);
        // A SHEET stays SPOILED until its CONSTANTS are worked out anew.
        tell(72, "5");
        again(72);
        broken(72, 3, 10, 72, 1);
        readsAre(72);
        constant(1, "l=k%0.5", 1);
        again(70, 71, 72, 130);
        due("value(72)", x.value(72), 5);
        due("value(130)", x.value(130), 2);
        due("count(12)", x.count(12), 3);
        constant(1, "zz=yy", -104);
        again();
        due("count(12)", x.count(12), 3);
    }

    private void recalculatingFunctions() {
        function("f(a)=a+1", 0);
        function("g(a)=f(a)*2", 1);
        function("h(a)=root(g,-a,a)", 2);
        function("i(a)=if(a<1,0,i(a-1))", 3);
        constant(2, "k=h(5)", 0);
        tell(0, "f(1)");
        tell(1, "g(1)");
        tell(2, "h(9)");
        tell(3, "i(9)");
        tell(4, "root(f,-5,5)");
        tell(5, "Ad0");
        tell(6, "try(1,Aa0)");
        tell(128, "1");
        again(0, 1, 2, 3, 4, 5, 6, 128);
        again();
        function("f(b)=b+1", 0);
        again(0, 1, 2, 4, 6, 128);
        due("count(13)", x.count(13), 2);
        function("g(a)=a*2", 1);
        again(1, 2, 128);
        function("f(b)=b+3", 0);
        again(0, 4, 6);
        due("value(0)", x.value(0), 4);
        function("i(a)=a", 3);
        again(3, 5);
        due("value(5)", x.value(5), 9);
        function("new(a)=a", 4);
        again();
        function("f(b)=zz", -104);
        again();
        due("count(13)", x.count(13), 3);
        // The longest way, against the numbers.
        x = new LoadBook();
        for (char c = 'a'; c <= 'h'; c++) {
            function(c + "(x)=x", c - 'a');
        }
        for (char c = 'a'; c < 'h'; c++) {
            function(c + "(x)=" + (char) (c + 1) + "(x)", c - 'a');
        }
        tell(0, "a(1)");
        tell(1, "b(1)");
        again(0, 1);
        function("h(x)=x+1", 7);
        again(0, 1);
        due("value(0)", x.value(0), 2);
        function("a(x)=x", 0);
        again(0);
    }

    private void states() {
        due("cell -1", x.state(-1), -1);
        due("cell 256", x.state(256), -1);
        due("EMPTY", x.state(0), 0);
        x.whole(0, 1);
        due("LONG", x.state(0), 1);
        x.number(0, 1, 0);
        due("DOUBLE", x.state(0), 2);
        tell(0, "Ab0");
        due("told", x.state(0), 6);
        due("its value", x.value(0), 0);
        due("its failure", x.failure(0, 0), -1);
        tell(1, "1/0");
        tell(2, "Ac0");
        x.recalculate();
        due("HANGS", x.state(0), 5);
        due("FAILED", x.state(1), 3);
        due("CYCLE", x.state(2), 4);
        tell(1, "1.0/4");
        due("told", x.state(1), 6);
        due("not worked out yet", x.state(0), 5);
        x.recalculate();
        due("a FORMULA's DOUBLE", x.state(0), 2);
        x.whole(1, 4);
        due("not worked out yet", x.state(0), 2);
        x.recalculate();
        due("a FORMULA's LONG", x.state(0), 1);
    }

    private void longs() {
        due("no cell", x.value(-1), 0);
        due("no cell", x.value(256), 0);
        x.whole(0, Long.MIN_VALUE);
        x.whole(1, Long.MAX_VALUE);
        x.whole(2, -7);
        gives("999999999999999999", 999999999999999999L);
        gives("1+2*3-4", 3);
        gives("10-3-2", 5);
        gives("100/5/2*3%7", 2);
        gives("-2+3", 1);
        gives("--2", 2);
        gives("-Aa0", Long.MIN_VALUE);
        gives("Ab0+1", Long.MIN_VALUE);
        gives("Aa0-1", Long.MAX_VALUE);
        gives("Ab0*2", -2);
        gives("Aa0/-1", Long.MIN_VALUE);
        gives("Aa0%-1", 0);
        gives("Ac0/2", -3);
        gives("Ac0%2", -1);
        gives("7%Ac0", 0);
        gives("7/-2", -3);
        gives("7%-2", 1);
        fails("1/0", 1);
        fails("1%0", 1);
        fails("1/(2-2)", 1);
        gives("cut(Aa0)", Long.MIN_VALUE);
        gives("real(Ab0)", 9.223372036854775807e18);
    }

    private void doubles() {
        x.whole(0, 9007199254740993L);
        x.whole(1, 9007199254740995L);
        gives("0.1+0.2", 0.1 + 0.2);
        gives("1.5", 1.5);
        gives("12345678.1234567", 123456781234567.0 / 1e7);
        gives("0.12345678901234", 12345678901234.0 / 1e14);
        gives("1-0.9", 1 - 0.9);
        gives("3*0.1", 3 * 0.1);
        gives("1/3.0", 1 / 3.0);
        gives("Aa0+0.0", 9007199254740992.0);
        gives("Ab0+0.0", 9007199254740996.0);
        gives("real(Aa0)", 9007199254740992.0);
        gives("-0.0", -0.0);
        gives("0.0*-1", -0.0);
        gives("-0.0+0", 0.0);
        gives("-0.0-0.0", -0.0);
        gives("0-0.0", 0.0);
        gives("-0.0/5", -0.0);
        gives("--0.0", 0.0);
        fails("1/0.0", 1);
        fails("1.5/0", 1);
        fails("1.5/-0.0", 1);
        fails("1.5%-0.0", 1);
        fails("0.0/0.0", 1);
        gives("cut(2.9)", 2);
        gives("cut(-2.9)", -2);
        gives("cut(-0.0)", 0);
        gives("cut(999999999999999999*1000.0)", Long.MAX_VALUE);
        gives("cut(-999999999999999999*1000.0)", Long.MIN_VALUE);
        gives("real(3)", 3.0);
        gives("real(-0.0)", -0.0);
    }

    private void remainders() {
        gives("7.5%2", 1.5);
        gives("-7.5%2", -1.5);
        gives("7.5%-2", 1.5);
        gives("6.0%2", 0.0);
        gives("-6.0%2", -0.0);
        gives("-0.0%2", -0.0);
        gives("1%0.1", 1 % 0.1);
        gives("1.5%7", 1.5);
        gives("999999999999999999%0.7", 999999999999999999.0 % 0.7);
        // k is 2 to the 960, far from what it is divided by.
        function("p(a)=a*a*a*a*a*a*a*a*a*a*a*a*a*a*a*a", 0);
        constant(3, "k=p(1073741824.0*1073741824)", 0);
        double k = Math.scalb(1.0, 960);
        gives("k", k);
        gives("k%3", k % 3);
        gives("-k%3.7", -k % 3.7);
        gives("1/k%(1/k/3)", 1 / k % (1 / k / 3));
        gives("3.3%(1/k/7)", 3.3 % (1 / k / 7));
        gives("k%(1/k/7)", k % (1 / k / 7));
        // 10 times the 3 that lie beneath the normal ones leave 1.
        gives("5/k/4503599627370496/1125899906842624%(3/k/4503599627370496/2251799813685248)",
            Math.scalb(1.0, -1063));
        gives("k%(3/k/4503599627370496/2251799813685248)", k % Math.scalb(3.0, -1063));
    }

    /** Each DOUBLE's bits are worked out from its value: the ends of the range, and what lies beneath. */
    private void extremes() {
        function("p(a)=a*a*a*a*a*a*a*a*a*a*a*a*a*a*a*a", 0);
        // 2 to the 1023 is 2 to the 63 (by 16 times: 1008) times 2 to the 15.
        x.number(0, Long.MIN_VALUE, 0);
        gives("p(Aa0)", Math.scalb(1.0, 1008));
        gives("p(Aa0)*16384", Math.scalb(1.0, 1022));
        gives("p(Aa0)*32768", Math.scalb(1.0, 1023));
        fails("p(Aa0)*65536", 5);
        fails("-p(Aa0)*65536", 5);
        fails("p(Aa0)*32768+p(Aa0)*32768", 5);
        fails("-p(Aa0)*32768-p(Aa0)*32768", 5);
        fails("p(Aa0)/(1/p(Aa0))", 5);
        x.whole(1, (1L << 53) - 1);
        gives("p(Aa0)*(real(Ab0)/4503599627370496*16384)", Math.scalb((double) ((1L << 53) - 1), 970));
        gives("p(Aa0)*(real(Ab0)/4503599627370496*32767)*1.0", Math.scalb(Math.nextDown(2.0) * 32767, 1008));
        gives("p(Aa0)*(real(Ab0)/4503599627370496)*16384*1.0", GREATEST / 2);
        gives("p(Aa0)*(real(Ab0)/4503599627370496)*16384+p(Aa0)*(real(Ab0)/4503599627370496)*16384", GREATEST);
        gives("-p(Aa0)*(real(Ab0)/4503599627370496)*16384-p(Aa0)*(real(Ab0)/4503599627370496)*16384", -GREATEST);
        gives("1/p(Aa0)", Math.scalb(1.0, -1008));
        gives("1/p(Aa0)/16384", Double.MIN_NORMAL);
        gives("1/p(Aa0)/32768", Double.MIN_NORMAL / 2);
        gives("1/p(Aa0)/49152", Math.scalb(1.0, -1008) / 49152);
        gives("-1/p(Aa0)/1000000000000000", -Math.scalb(1.0, -1008) / 1000000000000000.0);
        gives("1/p(Aa0)/36893488147419103", Math.scalb(1.0, -1008) / 36893488147419103.0);
        gives("1/p(Aa0)/8589934592/8589934592", Double.MIN_VALUE);
        gives("-1/p(Aa0)/8589934592/8589934592", -Double.MIN_VALUE);
        gives("1/p(Aa0)/8589934592/8589934592/2", 0.0);
        gives("-1/p(Aa0)/8589934592/8589934592/2", -0.0);
    }

    private void comparisons() {
        x.whole(0, 9007199254740993L);
        x.whole(1, 9007199254740992L);
        gives("1<2", 1);
        gives("2<1", 0);
        gives("2<=2", 1);
        gives("2<2", 0);
        gives("2=2", 1);
        gives("2<>2", 0);
        gives("2<>3", 1);
        gives("Ab0<Aa0", 1);
        gives("Aa0=Ab0", 0);
        gives("Aa0=Ab0+0.0", 1);
        gives("Ab0+0.0<Aa0", 0);
        gives("Aa0<=Ab0*1.0", 1);
        gives("0.0=-0.0", 1);
        gives("-0.0<0.0", 0);
        gives("-0.0<=0", 1);
        gives("0.0<>-0.0", 0);
        gives("1.5<>1", 1);
        gives("(1<2)+(3<4)", 2);
    }

    private void guards() {
        x.whole(0, 5);
        gives("if(1,2,3)", 2);
        gives("if(0,2,3)", 3);
        gives("if(0.0,2,3)", 3);
        gives("if(-0.0,2,3)", 3);
        gives("if(0.1,2,3)", 2);
        gives("if(1,2,1/0)", 2);
        gives("if(0,Ah7,3)", 3);
        fails("if(1/0,2,3)", 1);
        gives("try(1,1/0)", 1);
        gives("try(1/0,2)", 2);
        gives("try(1+try(1/0,2%0),9)", 9);
        gives("1+try(2*(3+1/0),4)*5", 21);
        gives("try(Ah7,Aa0)", 5);
        fails("try(1/0,Ah7)", 3);
        gives("if(try(1/0,0),1,2)-try(try(1/0,1/0),3)", -1);
        function("f(a)=try(1/a,0-1)", 0);
        gives("f(0)+f(1)*10", 9);
        function("g(a)=1/a", 1);
        gives("3+try(2*g(g(0)),7)", 10);
        // Nine tries in each of twenty-one E that are under way.
        function("h(a)=" + times(9, "try(") + "h(a+1)" + times(8, ",1/0)") + ",a)", 2);
        gives(times(9, "try(") + "h(1)" + times(8, ",1/0)") + ",99)", 20);
    }

    private void ranges() {
        x.whole(9, 4);
        x.whole(10, -2);
        x.number(17, 15, 1);
        x.whole(18, 9);
        gives("sum(Ab1:Ac1)", 2);
        gives("10-sum(Ab1:Ac1)*5", 0);
        gives("10-least(Ab1:Ac1)*5", 20);
        gives("10-most(Ab1:Ac1)*count(Aa0:Ah7)", -6);
        gives("100-at(Ab1:Ac1,1)*5", 110);
        gives("sum(Ab1:Ac2)", 12.5);
        gives("sum(Aa0:Ah7)", 12.5);
        gives("sum(Ag6:Ah7)", 0);
        gives("least(Ab1:Ac2)", -2);
        gives("most(Ab1:Ac2)", 9);
        gives("least(Ab2:Ac2)", 1.5);
        gives("most(Ab2:Ab2)", 1.5);
        gives("count(Aa0:Ah7)", 4);
        gives("count(Ag6:Ah7)", 0);
        fails("least(Ag6:Ah7)", 3);
        fails("most(Ag6:Ah7)", 3);
        gives("at(Ab1:Ac2,0)", 4);
        gives("at(Ab1:Ac2,1)", -2);
        gives("at(Ab1:Ac2,2)", 1.5);
        gives("at(Ab1:Ac2,3)", 9);
        fails("at(Ab1:Ac2,4)", 2);
        fails("at(Ab1:Ac2,-1)", 2);
        fails("at(Ab1:Ac2,4294967296)", 2);
        fails("at(Ab1:Ac2,1.0)", 11);
        fails("at(Ab1:Ac2,1/0)", 1);
        fails("at(Aa0:Ah7,0)", 3);
        // The first of those that are alike stays, also by sort.
        x.number(11, 4, 0);
        gives("least(Ab1:Ab1)", 4);
        gives("most(Ab1:Ad1)", 4);
        x.whole(11, 4);
        x.number(9, 4, 0);
        gives("most(Ab1:Ad1)", 4.0);
        // A sum goes from the left: the two LONGS wrap before the DOUBLE comes.
        x.whole(32, Long.MAX_VALUE);
        x.whole(33, 1);
        x.number(34, 0, 0);
        gives("sum(Aa4:Ac4)", -9.223372036854775808e18);
        x.number(32, 0, 0);
        x.whole(33, Long.MAX_VALUE);
        x.whole(34, 1);
        gives("sum(Aa4:Ac4)", 9.223372036854775808e18);
        tell(40, "-0.0");
        gives("sum(Aa5:Ab5)", -0.0);
    }

    private void row(int from, double... values) {
        for (int i = 0; i < values.length; i++) {
            x.number(from + i, Math.round(values[i] * 1000), 3);
        }
    }

    private void lines() {
        row(0, 0, 1, 3, 10);
        row(8, 5, 7, 4, 4.5);
        gives("line(0.0,Aa0:Ad0,Aa1:Ad1)", 5.0);
        gives("line(-9,Aa0:Ad0,Aa1:Ad1)", 5.0);
        gives("line(10,Aa0:Ad0,Aa1:Ad1)", 4.5);
        gives("line(99,Aa0:Ad0,Aa1:Ad1)", 4.5);
        gives("line(1,Aa0:Ad0,Aa1:Ad1)", 7.0);
        gives("line(0.5,Aa0:Ad0,Aa1:Ad1)", 6.0);
        gives("line(2,Aa0:Ad0,Aa1:Ad1)", 5.5);
        gives("line(3,Aa0:Ad0,Aa1:Ad1)", 4.0);
        gives("line(4.1,Aa0:Ad0,Aa1:Ad1)", 4.0 + (4.5 - 4.0) * ((4.1 - 3) / (10.0 - 3)));
        fails("line(1,Aa0:Ad0,Aa1:Ac1)", 7);
        fails("line(1,Aa0:Aa0,Aa1:Aa1)", 7);
        fails("line(1,Aa1:Ad1,Aa0:Ad0)", 7);
        fails("line(1,Aa0:Ad0,Ae1:Ah1)", 3);
        fails("line(1/0,Aa0:Aa0,Aa1:Aa1)", 1);
        // Read by rows: 0 1 5 7 is a table's R too.
        fails("line(1,Ac0:Ad1,Aa0:Ad0)", 7);
        gives("line(6,Aa0:Ab1,Aa0:Ad0)", 6.5);
        row(1, 0);
        fails("line(1,Aa0:Ad0,Aa1:Ad1)", 7);
        // A LONG is read as a DOUBLE.
        x.whole(1, 2);
        x.whole(9, 9);
        gives("line(2,Aa0:Ad0,Aa1:Ad1)", 9.0);
        function("p(a)=a*a*a*a*a*a*a*a*a*a*a*a*a*a*a*a", 0);
        x.number(63, Long.MIN_VALUE, 0);
        tell(16, "-p(Ah7)*32768");
        tell(17, "p(Ah7)*32768");
        gives("line(p(Ah7)*32768,Aa2:Ab2,Aa0:Ab0)", 2.0);
        fails("line(0,Aa2:Ab2,Aa0:Ab0)", 5);
        fails("line(1,Aa0:Ab0,Aa2:Ab2)", 5);
        fails("line(0.000001,Aa0:Ab0,Aa2:Ab2)", 5);
        // At its ends, and where x is one of R, no other number is looked at.
        gives("line(0,Aa0:Ab0,Aa2:Ab2)", -Math.scalb(1.0, 1023));
        gives("line(2,Aa0:Ab0,Aa2:Ab2)", Math.scalb(1.0, 1023));
        row(0, 0, 1, 3);
        x.number(8, 10000000000000000L, 0);
        x.number(9, 1, 1);
        gives("line(1,Aa0:Ac0,Aa1:Ac1)", 0.1);
        gives("line(1.0,Aa0:Ab0,Aa1:Ab1)", 0.1);
    }

    private void wholeSheets() {
        for (int i = 0; i < 64; i++) {
            x.whole(i, 2L * i);
            x.whole(64 + i, 100L - i);
        }
        gives("line(101,Aa0:Ah7,Ba0:Bh7)", 49.5);
        gives("line(999,Aa0:Ah7,Ba0:Bh7)", 37.0);
        gives("area(Aa0:Ah7,Ba0:Bh7)", 126 * 137 / 2.0);
        gives("sum(Aa0:Ah7)", 63 * 64);
        gives("at(Aa0:Ah7,63)", 126);
        fails("at(Aa0:Ah7,64)", 2);
    }

    private void areas() {
        row(0, 0, 1, 3, 10);
        row(8, 5, 7, 4, 4.5);
        gives("area(Aa0:Ad0,Aa1:Ad1)", 6.0 + 11.0 + 7 * 8.5 / 2.0);
        gives("area(Aa0:Ab0,Aa1:Ab1)", 6.0);
        row(16, 10, 3, 1, 0);
        gives("area(Aa2:Ad2,Aa1:Ad1)", -7 * 12 / 2.0 - 11.0 - 8.5 / 2.0);
        gives("area(Aa0:Aa1,Ab0:Ab1)", 5 * 8 / 2.0);
        fails("area(Aa0:Ad0,Aa1:Ac1)", 7);
        fails("area(Aa0:Aa0,Aa1:Aa1)", 7);
        fails("area(Aa0:Ae0,Aa1:Ae1)", 3);
        function("p(a)=a*a*a*a*a*a*a*a*a*a*a*a*a*a*a*a", 0);
        x.number(63, Long.MIN_VALUE, 0);
        tell(24, "-p(Ah7)*32768");
        tell(25, "p(Ah7)*32768");
        tell(26, "p(Ah7)*32768");
        fails("area(Aa3:Ab3,Aa0:Ab0)", 5);
        fails("area(Aa0:Ab0,Ab3:Ac3)", 5);
        gives("area(Aa0:Ab0,Aa3:Ab3)", 0.0);
        fails("area(Ab3:Ac3,Ab3:Ac3)", 5);
        gives("area(Ab3:Ac3,Aa3:Ab3)", 0.0);
        x.whole(27, 0);
        x.whole(28, 1);
        x.whole(29, 3);
        fails("area(Ad3:Af3,Ab3:Ad3)", 5);
        x.whole(0, 0);
        x.whole(1, 2);
        x.whole(2, 4);
        x.number(10, 0, 0);
        tell(8, "p(Ah7)*32768*0.5");
        tell(9, "p(Ah7)*32768*0.5");
        tell(10, "p(Ah7)*32768*0.5");
        fails("area(Aa0:Ab0,Aa1:Ab1)", 5);
        x.whole(1, 1);
        gives("area(Aa0:Ab0,Aa1:Ab1)", Math.scalb(1.0, 1022));
    }

    private static double halved(double low, double high, java.util.function.DoubleUnaryOperator f) {
        boolean below = f.applyAsDouble(low) < 0;
        for (int i = 0; i < 60; i++) {
            double m = low + (high - low) * 0.5;
            if (f.applyAsDouble(m) < 0 == below) {
                low = m;
            } else {
                high = m;
            }
        }
        return low + (high - low) * 0.5;
    }

    private void roots() {
        function("f(a)=a*a-2", 0);
        gives("root(f,0,2)", halved(0, 2, a -> a * a - 2));
        gives("root(f,2,0)", halved(2, 0, a -> a * a - 2));
        gives("root(f,-3.0,1)", halved(-3, 1, a -> a * a - 2));
        fails("root(f,2,3)", 6);
        fails("root(f,0,1)", 6);
        fails("root(f,1/0,1)", 1);
        fails("root(f,1,1%0)", 1);
        function("g(a)=a", 1);
        // f of 0 is not below 0: so it is like one above it.
        fails("root(g,0,1)", 6);
        gives("root(g,-1,0)", halved(-1, 0, a -> a));
        gives("root(g,-1,3)", halved(-1, 3, a -> a));
        function("h(a)=if(a<0.3,-1,1)", 2);
        gives("root(h,0,1)", halved(0, 1, a -> a < 0.3 ? -1 : 1));
        function("i(a)=1/(a-0.5)", 3);
        fails("root(i,0,1)", 1);
        function("p(a)=a*a*a*a*a*a*a*a*a*a*a*a*a*a*a*a", 4);
        x.number(63, Long.MIN_VALUE, 0);
        fails("root(g,-p(Ah7)*32768,p(Ah7)*32768)", 5);
        function("j(a)=root(f,0,a)-if(a<3,2,1)", 5);
        // A root of f takes 62 asks of 6 STEPS each: there are not enough for a third one.
        fails("root(j,2,4)", 8);
        gives("try(root(f,2,3),root(g,-1,3))", halved(-1, 3, a -> a));
        // What f is given is a DOUBLE.
        function("k(a)=if(a=cut(a),-1,1)+0*a", 6);
        gives("k(3)", -1);
        gives("k(3.0)", -1.0);
    }

    private void failures() {
        due("no cell, also with another what", x.failure(256, 9), -3);
        due("no cell", x.failure(-1, 0), -3);
        due("what 3", x.failure(0, 3), -2);
        due("what -1", x.failure(0, -1), -2);
        due("none", x.failure(0, 0), -1);
        tell(0, "1/0");
        tell(1, "Aa0+Ac0");
        tell(2, "Ad0");
        tell(3, "Ac0");
        tell(4, "Ab0");
        tell(5, "Ac0+Aa0");
        tell(6, "sum(Aa0:Ab0)");
        tell(7, "count(Aa0:Ab0)");
        tell(8, "try(Ab0,0)%0");
        x.recalculate();
        broken(0, 3, 1, 0, 0);
        broken(1, 5, 1, 0, 0);
        broken(2, 4, 9, 2, 0);
        broken(3, 4, 9, 2, 0);
        broken(4, 5, 1, 0, 0);
        broken(5, 5, 9, 2, 0);
        broken(6, 5, 1, 0, 0);
        broken(7, 5, 1, 0, 0);
        broken(8, 3, 1, 8, 0);
        due("what 3", x.failure(0, 3), -2);
        x.whole(0, 1);
        due("of a VALUE", x.failure(0, 0), -1);
        function("f(a)=f(a)", 0);
        constant(1, "k=f(1)", 0);
        tell(64, "3");
        tell(9, "Ba0");
        tell(10, "at(Aa0:Ab0,2)");
        tell(11, "at(Aa0:Ab0,2.0)");
        x.recalculate();
        broken(64, 3, 10, 64, 4);
        broken(9, 5, 10, 64, 4);
        broken(10, 3, 2, 10, 0);
        broken(11, 3, 11, 11, 0);
    }

    private void spending() {
        // A CALL of s takes 2 STEPS and 19 of its own; so one of t takes 2 and 9 + 10 * 21.
        function("s(a)=a+a+a+a+a+a+a+a+a+a", 0);
        function("t(a)=s(a)" + times(9, "+s(a)"), 1);
        gives("t(1)+t(1)+t(1)+t(1)", 400);
        fails("t(1)+t(1)+t(1)+t(1)+t(1)", 8);
        fails("try(t(1)+t(1)+t(1)+t(1)+t(1),7)", 8);
        // 4 * 221 and 4 signs, a sum of 64 cells, a sign, a sum of 40 cells: 995.
        String most = "t(1)+t(1)+t(1)+t(1)+sum(Ba0:Bh7)+sum(Ba0:Bh4)";
        gives(most + "+1+1", 402);
        gives(most + "+1+-1", 400);
        fails(most + "+-1+-1", 8);
        fails(most + "+1+1+1", 8);
        gives(most + "+sum(Ba0:Bc0)", 400);
        fails(most + "+sum(Ba0:Bd0)", 8);
        // What is not there any more is not read any more.
        tell(255, most + "+sum(Ba0:Bc0)+Aa0");
        x.recalculate();
        broken(255, 3, 8, 255, 0);
        // What fails inside a try takes its STEPS too: here the y of the try is the 1001st.
        fails(most + "+try(1/0,1)", 8);
        String less = "t(1)+t(1)+t(1)+t(1)+sum(Ba0:Bh7)+sum(Ba0:Bg4)";
        gives(less + "+1+1+try(1/0,1)", 403);
        fails(less + "+1+-1+try(1/0,1)", 8);
    }

    private void spentElsewhere() {
        function("s(a)=a+a+a+a+a+a+a+a+a+a", 0);
        function("t(a)=s(a)" + times(9, "+s(a)"), 1);
        tell(0, "t(1)+t(1)+t(1)+t(1)+t(1)");
        tell(1, "Aa0");
        tell(2, "try(Aa0,5)");
        tell(3, "try(sum(Aa0:Ab0),6)");
        tell(4, "try(try(Aa0,1/0),7)");
        tell(5, "try(t(1)+t(1)+t(1)+t(1)+t(1),5)");
        x.recalculate();
        broken(0, 3, 8, 0, 0);
        broken(1, 5, 8, 0, 0);
        due("a try takes what was read", x.value(2), 5);
        due("a try takes what was read", x.value(3), 6);
        due("a try takes what was read", x.value(4), 7);
        broken(5, 3, 8, 5, 0);
        // A try that a SPENT went by takes nothing later.
        tell(6, "1/0");
        tell(5, "try(t(1)+t(1)+t(1)+t(1)+t(1),5)");
        tell(7, "3+Ag0");
        x.recalculate();
        broken(6, 3, 1, 6, 0);
        broken(7, 5, 1, 6, 0);
        constant(2, "k=t(1)+t(1)+t(1)+t(1)+t(1)", 0);
        tell(128, "1");
        x.recalculate();
        broken(128, 3, 10, 128, 8);
    }

    private void depths() {
        function("f(a)=if(a<=1,1,1+f(a-1))", 0);
        gives("f(20)", 20);
        fails("f(21)", 4);
        gives("try(f(21),5)+f(20)", 25);
        function("g(a)=f(a)", 1);
        gives("g(19)", 19);
        fails("g(20)", 4);
        function("h(a)=try(1+h(a),0)", 2);
        gives("h(1)", 19);
        // root asks by CALLS.
        function("i(a)=a-1", 3);
        function("j(a)=if(a<=1,root(i,-3,5),j(a-1))", 4);
        gives("j(19)", 1.0);
        fails("j(20)", 4);
        // ARGUMENTS are worked out ahead of their CALL.
        function("n(a)=a+1", 5);
        gives("f(20)+n(n(n(1)))", 24);
        function("q(a)=if(a<=1,n(n(n(1))),q(a-1))", 6);
        gives("q(19)", 4);
        fails("q(20)", 4);
    }

    private void doneOrder() {
        due("none", x.done(0), -1);
        due("none", x.done(-1), -1);
        tell(9, "Ah0");
        tell(3, "Ab1");
        tell(7, "1");
        tell(5, "Ad0");
        tell(200, "1");
        again(7, 9, 3, 5, 200);
        again();
        x.whole(7, 1);
        again(9, 3, 5);
        // One on a CYCLE waits for nothing.
        tell(2, "Ae0+Ah7");
        tell(4, "Ac0");
        tell(63, "1");
        tell(1, "Ae0");
        again(2, 4, 1, 63);
        broken(2, 4, 9, 2, 0);
        broken(1, 5, 9, 2, 0);
        due("done(-1)", x.done(-1), -1);
        due("done(4)", x.done(4), -1);
        // 8 goes by way of 6, which is not CHANGED until 8's other need is.
        x = new LoadBook();
        tell(8, "Ag0+Af0");
        tell(6, "1");
        tell(5, "Ag0");
        again(6, 5, 8);
    }

    private void needing() {
        due("no cell", x.needs(-1, 0), -1);
        due("no cell", x.needs(256, 0), -1);
        due("no FORMULA", x.needs(0, 0), -1);
        function("f(a)=a", 0);
        tell(0, "at(Ab1:Ac2,Aa7)+Ab2+if(1,2,Dh7)+f(Ab1)+line(Ca0,Ca1:Ca2,Ab0:Ab1)+Aa0");
        int[] want = {9, 10, 17, 18, 56, 255, 128, 136, 144, 1, 0};
        for (int i = 0; i < want.length; i++) {
            due("needs(0, " + i + ")", x.needs(0, i), want[i]);
        }
        due("no more", x.needs(0, want.length), -1);
        due("needs(0, -1)", x.needs(0, -1), -1);
        tell(1, "sum(Aa0:Ah7)+sum(Ba0:Bh7)+sum(Ca0:Ch7)+sum(Da0:Dh7)");
        for (int i = 0; i < 256; i++) {
            due("needs(1, " + i + ")", x.needs(1, i), i);
        }
        due("no more", x.needs(1, 256), -1);
        x.whole(0, 1);
        due("gone", x.needs(0, 0), -1);
    }

    private void neededness() {
        due("no cell", x.neededBy(-1, 0), -1);
        due("no cell", x.neededBy(256, 0), -1);
        due("none", x.neededBy(0, 0), -1);
        tell(200, "Aa0");
        tell(5, "sum(Aa0:Ab7)+Aa0");
        tell(0, "Aa0");
        due("first", x.neededBy(0, 0), 0);
        due("second", x.neededBy(0, 1), 5);
        due("third", x.neededBy(0, 2), 200);
        due("no more", x.neededBy(0, 3), -1);
        due("neededBy(0, -1)", x.neededBy(0, -1), -1);
        due("in an R", x.neededBy(57, 0), 5);
        due("beside it", x.neededBy(58, 0), -1);
        x.empty(5);
        due("second", x.neededBy(0, 1), 200);
        due("not by way of others", x.neededBy(255, 0), -1);
    }

    private void cycles() {
        tell(10, "Ad1");
        tell(11, "Ac1");
        tell(2, "Ac0+1");
        tell(30, "Ah3+Ag3");
        tell(31, "Ag3");
        tell(12, "Ac1");
        due("not yet", x.cycle(0, 0), -1);
        due("not yet", x.count(4), 0);
        x.recalculate();
        due("count(4)", x.count(4), 3);
        due("itself", x.cycle(0, 0), 2);
        due("alone", x.cycle(0, 1), -1);
        due("two", x.cycle(1, 0), 10);
        due("two", x.cycle(1, 1), 11);
        due("12 only hangs on it", x.cycle(1, 2), -1);
        due("two and itself", x.cycle(2, 0), 30);
        due("two and itself", x.cycle(2, 1), 31);
        due("no more", x.cycle(3, 0), -1);
        due("cycle(-1, 0)", x.cycle(-1, 0), -1);
        due("cycle(0, -1)", x.cycle(0, -1), -1);
        x.whole(2, 1);
        due("as it was", x.cycle(0, 0), 2);
        tell(12, "Ac1+Ad1");
        due("count(4) as it was", x.count(4), 3);
        again(12);
        due("count(4)", x.count(4), 2);
        // Two that have one cell in common are one.
        due("the first now", x.cycle(0, 0), 10);
        tell(11, "Ac1+Ae1");
        again(10, 11, 12);
        due("three", x.cycle(0, 2), 12);
        broken(12, 4, 9, 10, 0);
        // A try does not break a CYCLE.
        tell(40, "try(Aa5,1)");
        again(40);
        broken(40, 4, 9, 40, 0);
        readsAre(40);
        // As many as there can be, and as many cells.
        x = new LoadBook();
        for (int c = 0; c < 48; c++) {
            tell(c, "A" + (char) ('a' + c % 8) + c / 8);
        }
        due("recalculate()", x.recalculate(), 48);
        due("count(4)", x.count(4), 48);
        for (int c = 0; c < 48; c++) {
            due("done(" + c + ")", x.done(c), c);
            due("cycle(" + c + ", 0)", x.cycle(c, 0), c);
            due("cycle(" + c + ", 1)", x.cycle(c, 1), -1);
        }
        for (int c = 0; c < 48; c++) {
            tell(c, "sum(Aa0:Ah5)");
        }
        due("recalculate()", x.recalculate(), 48);
        due("count(4)", x.count(4), 1);
        due("the last", x.cycle(0, 47), 47);
        due("no more", x.cycle(0, 48), -1);
        broken(47, 4, 9, 0, 0);
    }

    private void traces() {
        due("no cell", x.trace(-1, 0), -1);
        due("no cell", x.trace(256, 0), -1);
        due("none", x.trace(0, 0), -1);
        x.whole(1, 1);
        x.whole(2, 2);
        tell(0, "if(Ab0<Ac0,Ac0+Ab0,Ad0)");
        readsAre(0);
        x.recalculate();
        readsAre(0, 1, 2, 2, 1);
        due("trace(0, -1)", x.trace(0, -1), -1);
        tell(8, "try(Ab0+Ad0+Ac0,Ac0)+at(Aa0:Ah0,1)+count(Ac0:Ad0)");
        x.recalculate();
        readsAre(8, 1, 3, 2, 1, 2, 3);
        tell(9, "sum(Aa2:Ah4)");
        x.recalculate();
        due("the 24th", x.trace(9, 23), 39);
        due("the 25th", x.trace(9, 24), -1);
        tell(9, "sum(Aa2:Ah4)+Ab0");
        readsAre(9);
        x.recalculate();
        due("the first", x.trace(9, 0), 16);
        due("the 24th", x.trace(9, 23), 39);
        due("the 25th is not kept", x.trace(9, 24), -1);
        x.whole(1, 5);
        readsAre(0, 1, 2, 2, 1);
        x.recalculate();
        readsAre(0, 1, 2, 3);
        broken(0, 3, 3, 0, 0);
        x.whole(0, 1);
        readsAre(0);
        tell(0, "line(Ab0,Ab0:Ac0,Ac0:Ad0)+Ac0");
        x.recalculate();
        readsAre(0, 1, 1, 2, 2, 3);
        function("f(a)=a+1", 0);
        tell(10, "f(Ac0)+f(Ab0)");
        x.recalculate();
        readsAre(10, 2, 1);
        constant(0, "k=1/0", 0);
        x.recalculate();
        readsAre(10);
    }

    private void namedIs(int sheet, int i, long state, long value, long kind) {
        due("named(" + sheet + ", " + i + ", 0)", x.named(sheet, i, 0), state);
        due("named(" + sheet + ", " + i + ", 1)", x.named(sheet, i, 1), value);
        due("named(" + sheet + ", " + i + ", 2)", x.named(sheet, i, 2), kind);
    }

    private void namedOnes() {
        due("no SHEET", x.named(-1, 0, 0), -1);
        due("no SHEET, also with another what", x.named(4, 0, 5), -1);
        due("no CONSTANT", x.named(0, 0, 0), -1);
        constant(2, "a=3", 0);
        constant(2, "b=a*1.5", 1);
        constant(2, "c=b/0", 2);
        constant(2, "d=1", 3);
        due("no CONSTANT", x.named(2, 4, 0), -1);
        due("no CONSTANT", x.named(2, -1, 0), -1);
        due("what 3", x.named(2, 0, 3), -2);
        due("what -1", x.named(2, 0, -1), -2);
        namedIs(2, 0, 0, 0, 0);
        x.recalculate();
        namedIs(2, 0, 1, 3, 0);
        namedIs(2, 1, 2, Double.doubleToRawLongBits(4.5), 0);
        namedIs(2, 2, 3, 0, 1);
        namedIs(2, 3, 0, 0, 0);
        constant(2, "c=b%2", 2);
        namedIs(2, 2, 0, 0, 0);
        namedIs(2, 1, 2, Double.doubleToRawLongBits(4.5), 0);
        x.recalculate();
        namedIs(2, 2, 2, Double.doubleToRawLongBits(0.5), 0);
        namedIs(2, 3, 1, 1, 0);
        constant(2, "a=0-1", 0);
        namedIs(2, 0, 0, 0, 0);
        namedIs(2, 3, 1, 1, 0);
        x.recalculate();
        namedIs(2, 0, 1, -1, 0);
        namedIs(2, 1, 2, Double.doubleToRawLongBits(-1.5), 0);
        // What came behind one that FAILED is not come to, though it was worked out before.
        constant(2, "b=a/0", 1);
        x.recalculate();
        namedIs(2, 1, 3, 0, 1);
        namedIs(2, 2, 0, 0, 0);
        namedIs(2, 3, 0, 0, 0);
        function("f(a)=f(a)", 0);
        constant(2, "b=f(1)", 1);
        x.recalculate();
        namedIs(2, 1, 3, 0, 4);
        function("f(a)=a", 0);
        namedIs(2, 1, 3, 0, 4);
        x.recalculate();
        namedIs(2, 1, 1, 1, 0);
    }

    private void oldEditions() {
        due("no cell ahead of all", x.old(9, 256, 9), -1);
        due("no cell", x.old(1, -1, 0), -1);
        due("what 2", x.old(9, 0, 2), -2);
        due("what -1", x.old(1, 0, -1), -2);
        due("no EDITION", x.old(1, 0, 0), -3);
        due("no EDITION", x.old(0, 0, 0), -3);
        tell(1, "Aa0*2");
        for (int i = 1; i <= 23; i++) {
            x.whole(0, i);
            x.recalculate();
            due("state", x.old(i, 1, 0), 1);
            due("value", x.old(i, 1, 1), 2L * i);
            due("the next", x.old(i + 1, 1, 0), -3);
        }
        for (int i = 14; i <= 23; i++) {
            due("old(" + i + ", 0, 1)", x.old(i, 0, 1), i);
            due("old(" + i + ", 1, 1)", x.old(i, 1, 1), 2L * i);
        }
        due("not kept any more", x.old(13, 1, 0), -3);
        due("not kept any more", x.old(1, 1, 1), -3);
        due("no EDITION", x.old(-5, 1, 1), -3);
        due("no EDITION", x.old(Integer.MAX_VALUE, 1, 1), -3);
        due("no EDITION", x.old(Integer.MIN_VALUE, 1, 1), -3);
        x.number(0, 1, 1);
        tell(2, "1/0");
        tell(3, "Ac0");
        due("as it was", x.old(23, 0, 1), 23);
        due("as it was", x.old(23, 2, 0), 0);
        x.recalculate();
        due("a DOUBLE", x.old(24, 0, 0), 2);
        due("its bits", x.old(24, 0, 1), Double.doubleToRawLongBits(0.1));
        due("FAILED", x.old(24, 2, 0), 3);
        due("HANGS", x.old(24, 3, 0), 5);
        due("without a VALUE", x.old(24, 3, 1), 0);
        x.empty(2);
        due("it stays", x.old(24, 2, 0), 3);
        due("EMPTY", x.old(24, 255, 0), 0);
    }

    private void counts() {
        due("count(-1)", x.count(-1), -1);
        due("count(15)", x.count(15), -1);
        tell(0, "Aa0");
        tell(1, "Aa0");
        tell(2, "1");
        function("f(a)=a", 0);
        function("g(a)=a", 1);
        constant(0, "a=1", 0);
        constant(1, "a=1", 0);
        constant(1, "b=1", 1);
        constant(3, "a=1", 0);
        constant(3, "b=1/0", 1);
        constant(3, "c=1", 2);
        int[] early = {0, 3, 2, 0, 0, 0, 0, 1, 2, 0, 3, 0, 0, 0, 0};
        for (int what = 0; what < 15; what++) {
            due("count(" + what + ")", x.count(what), early[what]);
        }
        x.recalculate();
        x.print(2);
        type("1+1");
        int[] then = {1, 3, 2, 3, 1, 3, 1, 1, 2, 0, 3, 1, 1, 0, 1};
        for (int what = 0; what < 15; what++) {
            due("count(" + what + ")", x.count(what), then[what]);
        }
        constant(1, "c=1", -102);
        constant(1, "c=1", 2);
        constant(1, "d=1", 3);
        x.recalculate();
        x.recalculate();
        due("EDITIONS", x.count(0), 3);
        due("as often as they were worked out", x.count(12), 2);
        due("DONE by the latest", x.count(3), 0);
        due("CYCLES at the latest", x.count(4), 1);
    }
}
