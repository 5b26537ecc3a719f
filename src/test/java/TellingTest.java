/** Promises 1 to 13: ordinary inputs, the edges that the document names, and wrong inputs. */
public final class TellingTest extends Checks {
    private TellingTest(String name) {
        super(name);
    }

    public static void main(String[] args) {
        new TellingTest("1 a new object").newObject();
        new TellingTest("2 type").typing();
        new TellingTest("3 wipe").wiping();
        new TellingTest("4 whole").wholes();
        new TellingTest("5 number").numbers();
        new TellingTest("6 empty").emptying();
        new TellingTest("7 formula").formulas();
        new TellingTest("7 formula, PARTS").parts();
        new TellingTest("8 function").functions();
        new TellingTest("9 constant").constants();
        new TellingTest("10 fault").faultPlaces();
        new TellingTest("10 fault, 1").faultsOfTokens();
        new TellingTest("10 fault, 2").faultsOfGrammar();
        new TellingTest("10 fault, 3").faultsOfSize();
        new TellingTest("10 fault, 4").faultsOfNames();
        new TellingTest("10 fault, 5").faultsOfHeads();
        new TellingTest("11 print").printing();
        new TellingTest("12 sign").signs();
        new TellingTest("13 take").taking();
        end("TellingTest");
    }

    private void newObject() {
        for (int c = 0; c < 256; c++) {
            due("state(" + c + ")", x.state(c), 0);
            due("value(" + c + ")", x.value(c), 0);
        }
        // An object is used for 512 calls at most.
        x = new LoadBook();
        for (int what = 0; what < 15; what++) {
            due("count(" + what + ")", x.count(what), 0);
        }
        due("NONE", LoadBook.NONE, -1);
        due("fault()", x.fault(), -1);
        due("old(0, 0, 0)", x.old(0, 0, 0), -3);
        due("recalculate()", x.recalculate(), 0);
    }

    private void typing() {
        due("type(0)", x.type(0), 0);
        due("type of 0s between", x.type(0x0031_0000_0000_2b32L), 3);
        due("formula", x.formula(0), 3);
        x.print(0);
        due("the lowest first", x.sign(1), '2');
        due("then the next", x.sign(2), '+');
        due("then the highest", x.sign(3), '1');
        for (int i = 1; i <= 30; i++) {
            due("type, time " + i, x.type(0x2020202020202020L), 8 * i);
        }
        due("type when full", x.type(0x31), -2);
        due("type of nothing when full", x.type(0), 240);
        due("wipe", x.wipe(), 240);
        for (int i = 0; i < 29; i++) {
            x.type(-1L);
        }
        due("type", x.type(0x20), 233);
        due("eight more", x.type(-1L), -2);
        due("seven more, the sign bit among them", x.type(0x80000101_01010101L | 0x00800000_00000000L), -2);
        due("it stays", x.count(5), 233);
        due("seven more", x.type(0xff_01_01_01_01_01_01_00L), 240);
    }

    private void wiping() {
        due("wipe of none", x.wipe(), 0);
        type("1+1");
        due("wipe", x.wipe(), 3);
        due("wipe again", x.wipe(), 0);
        due("nothing is left", x.formula(0), -102);
    }

    private void wholes() {
        due("cell -1", x.whole(-1, 1), -1);
        due("cell 256", x.whole(256, 1), -1);
        due("least cell", x.whole(0, Long.MIN_VALUE), 1);
        due("greatest cell", x.whole(255, Long.MAX_VALUE), 1);
        due("value(0)", x.value(0), Long.MIN_VALUE);
        due("value(255)", x.value(255), Long.MAX_VALUE);
        due("state(255)", x.state(255), 1);
        tell(3, "1+1");
        due("count(1)", x.count(1), 1);
        due("over a FORMULA", x.whole(3, 0), 1);
        due("count(1) behind it", x.count(1), 0);
        due("print", x.print(3), -3);
        due("state(3)", x.state(3), 1);
        due("value(3)", x.value(3), 0);
    }

    private void numbers() {
        due("cell -1", x.number(-1, 1, 16), -1);
        due("cell 256", x.number(256, 1, 0), -1);
        due("e 16", x.number(0, 1, 16), -2);
        due("e -1", x.number(0, 1, -1), -2);
        due("state", x.state(0), 0);
        long[] ns = {0, 1, -1, 5, 123456789, Long.MAX_VALUE, Long.MIN_VALUE, 9007199254740993L, 36028797018963969L};
        for (long n : ns) {
            for (int e = 0; e <= 15; e++) {
                due("number", x.number(7, n, e), 1);
                due("state", x.state(7), 2);
                double want = (double) n / Math.pow(10, e);
                due("number(" + n + ", " + e + ")", x.value(7), Double.doubleToRawLongBits(want));
            }
            x = new LoadBook();
        }
        tell(7, "1");
        x.number(7, 1, 0);
        due("over a FORMULA", x.count(1), 0);
    }

    private void emptying() {
        due("cell -1", x.empty(-1), -1);
        due("cell 256", x.empty(256), -1);
        due("EMPTY", x.empty(9), 0);
        x.whole(9, 4);
        due("LONG", x.empty(9), 1);
        due("state", x.state(9), 0);
        tell(9, "1");
        due("FORMULA", x.empty(9), 1);
        due("count(1)", x.count(1), 0);
        x.recalculate();
        tell(8, "count(Ab1:Ac1)");
        x.recalculate();
        due("of an EMPTY one", x.empty(9), 0);
        due("nothing changed", x.recalculate(), 0);
        x.number(9, 4, 1);
        x.recalculate();
        due("value(8)", x.value(8), 1);
        due("DOUBLE", x.empty(9), 1);
        due("its needer is CHANGED", x.recalculate(), 1);
        due("value(8)", x.value(8), 0);
    }

    private void formulas() {
        type("1+1");
        due("cell -1", x.formula(-1), -1);
        due("cell 256", x.formula(256), -1);
        due("THE TEXT stays", x.count(5), 3);
        due("formula", x.formula(255), 3);
        due("THE TEXT is taken", x.count(5), 0);
        due("state", x.state(255), 6);
        formula(255, "1+", -102);
        due("THE TEXT is taken with a FAULT too", x.count(5), 0);
        due("the FORMULA stays", x.print(255), 5);
        x.whole(0, 1);
        formula(0, "1+", -102);
        due("the VALUE stays", x.value(0), 1);
        for (int c = 0; c < 47; c++) {
            tell(c, "1");
        }
        due("count(1)", x.count(1), 48);
        type("1");
        due("no room", x.formula(47), -2);
        due("no FAULT", x.fault(), -1);
        due("THE TEXT is taken", x.count(5), 0);
        due("state(47)", x.state(47), 0);
        formula(47, "1+", -102);
        formula(46, "2+2", 3);
        x.empty(0);
        formula(47, "1", 1);
        due("count(1)", x.count(1), 48);
    }

    private void parts() {
        function("f(a)=a", 0);
        function("g(a,b,c)=a", 1);
        constant(3, "k=1", 0);
        formula(255, "1", 1);
        formula(255, "((((1))))", 1);
        formula(255, "-1", 2);
        formula(255, "1.5", 1);
        formula(255, "Aa0", 1);
        formula(255, "k", 1);
        formula(255, "k+k*k", 5);
        formula(255, "1<2", 3);
        formula(255, "if(1,2,3)", 4);
        formula(255, "try(1,2)", 3);
        formula(255, "sum(Aa0:Aa1)", 2);
        formula(255, "least(Aa0:Aa1)", 2);
        formula(255, "most(Aa0:Aa1)", 2);
        formula(255, "count(Aa0:Aa1)", 2);
        formula(255, "at(Aa0:Aa1,1)", 3);
        formula(255, "line(1,Aa0:Aa1,Ab0:Ab1)", 4);
        formula(255, "area(Aa0:Aa1,Ab0:Ab1)", 3);
        formula(255, "root(f,1,2)", 3);
        formula(255, "cut(1)", 2);
        formula(255, "real(1)", 2);
        formula(255, "f(1)", 2);
        formula(255, "g(1,2,3)", 4);
        formula(255, " - ( Aa0 )  <=  if ( k , k , f ( k ) ) ", 8);
    }

    private void functions() {
        function("f(a)=a+1", 0);
        function("g(a,b)=f(a)*b", 1);
        function("a(a,b,c)=a-b-c", 2);
        function("f(x)=x+2", 0);
        due("count(2)", x.count(2), 3);
        function("f(x,y)=x", -105);
        due("fault()", x.fault(), 0);
        function("r(n)=if(n<1,0,1+r(n-1))", 3);
        function("", -102);
        function("f(a)", -102);
        due("fault()", x.fault(), 4);
        function("f=1", -102);
        due("fault()", x.fault(), 1);
        function("f()=1", -102);
        due("fault()", x.fault(), 2);
        function("h(a,b,c,d)=1", -102);
        due("fault()", x.fault(), 7);
        function("if(a)=1", -102);
        due("fault()", x.fault(), 0);
        function("h(real)=1", -102);
        due("fault()", x.fault(), 2);
        for (int i = 4; i < 8; i++) {
            function("z" + (char) ('a' + i) + "(a)=1", i);
        }
        function("more(a)=1", -2);
        due("fault()", x.fault(), -1);
        function("more(a)=b", -104);
        function("more(a)=more(a)", -2);
        function("zf(b)=b*2", 5);
        due("count(2)", x.count(2), 8);
        gives("zf(4)+g(1,2)+a(9,2,3)+r(5)", 8 + 6 + 4 + 5);
    }

    private void constants() {
        type("k=1");
        due("no SHEET -1", x.constant(-1), -1);
        due("no SHEET 4", x.constant(4), -1);
        due("THE TEXT stays", x.wipe(), 3);
        constant(0, "k=1", 0);
        constant(0, "l=k+1", 1);
        constant(1, "k=7", 0);
        constant(0, "k=10", 0);
        constant(0, "m=l=11", 2);
        constant(0, "k=l", -104);
        due("fault()", x.fault(), 2);
        constant(0, "l=l", -104);
        constant(1, "q=l", -104);
        constant(0, "k", -102);
        constant(0, "k=", -102);
        due("fault()", x.fault(), 2);
        constant(0, "try=1", -102);
        due("fault()", x.fault(), 0);
        constant(0, "9=1", -102);
        constant(0, "n=1", 3);
        constant(0, "o=1", 4);
        constant(0, "p=1", -2);
        due("fault()", x.fault(), -1);
        constant(0, "o=n+m", 4);
        due("count(7)", x.count(7), 5);
        due("count(8)", x.count(8), 1);
        tell(0, "l*100+m");
        tell(64, "k");
        x.recalculate();
        due("value(0)", x.value(0), 1101);
        due("value(64)", x.value(64), 7);
    }

    private void faultPlaces() {
        due("at first", x.fault(), -1);
        bad("1+", 2, 2);
        type("1");
        due("one that takes no TEXT", x.formula(256), -1);
        due("the FAULT stays", x.fault(), 2);
        due("one that takes no TEXT", x.constant(4), -1);
        due("the FAULT stays", x.fault(), 2);
        due("formula", x.formula(0), 1);
        due("it is gone", x.fault(), -1);
        function("f(a)=", -102);
        due("of function()", x.fault(), 5);
        constant(0, "k=$", -101);
        due("of constant()", x.fault(), 2);
        constant(0, "k=1", 0);
        due("of constant() without one", x.fault(), -1);
    }

    private void faultsOfTokens() {
        bad("$", 1, 0);
        bad("1+$", 1, 2);
        bad("1+ \t1", 1, 3);
        bad("1+\u00ff", 1, 2);
        bad("A", 1, 0);
        bad("1+Aa", 1, 2);
        bad("Ai0", 1, 0);
        bad("Aa8", 1, 0);
        bad("A a0", 1, 0);
        bad("Ea0", 1, 0);
        bad("Aa0a", 2, 3);
        bad("Aa00", 2, 3);
        bad("a>b", 1, 1);
        bad("1>2", 1, 1);
        bad("1.", 1, 1);
        bad("1. 5", 1, 1);
        bad("1 .5", 1, 2);
        bad(".5", 1, 0);
        bad("1.5.", 1, 3);
        bad("1.5.5", 1, 3);
        bad("1..5", 1, 1);
        bad("abcdefghi", 1, 0);
        bad("1 + abcdefghi", 1, 4);
        bad("abcdefgh", 4, 0);
        bad("1234567890123456789", 1, 0);
        bad("0000000000000000001", 1, 0);
        bad("12345678.12345678", 1, 0);
        bad("0000000000000000.5", 1, 0);
        bad("1234567890123456.", 1, 16);
        formula(0, "123456789012345678", 1);
        formula(0, "12345678.1234567", 1);
        formula(0, "0.12345678901234", 1);
        // Of one place the least number, of two places the first.
        bad("1 abcdefghi", 1, 2);
        bad(")$", 2, 0);
        bad("1 1$", 2, 2);
        bad("xyz $", 1, 4);
    }

    private void faultsOfGrammar() {
        function("f(a)=a", 0);
        bad("", 2, 0);
        bad("   ", 2, 3);
        bad("1+ ", 2, 3);
        bad("1 2", 2, 2);
        bad("1+)", 2, 2);
        bad("(1", 2, 2);
        bad("()", 2, 1);
        bad("1)", 2, 1);
        bad("1<2<3", 2, 3);
        bad("1<2=3", 2, 3);
        bad("1< =2", 2, 3);
        bad("*1", 2, 0);
        bad("+1", 2, 0);
        bad("1,2", 2, 1);
        bad("Aa0:Ab0", 2, 3);
        bad("sum", 2, 3);
        bad("sum+1", 2, 3);
        bad("sum(1)", 2, 4);
        bad("sum(Aa0)", 2, 7);
        bad("sum(Aa0:1)", 2, 8);
        bad("sum(Aa0:Ab0+1)", 2, 11);
        bad("sum((Aa0:Ab0))", 2, 4);
        bad("if(1,2)", 2, 6);
        bad("if(1,2,3,4)", 2, 8);
        bad("try(1)", 2, 5);
        bad("at(1,Aa0:Ab0)", 2, 3);
        bad("at(Aa0:Ab0)", 2, 10);
        bad("line(1,2,3)", 2, 7);
        bad("area(Aa0:Ab0)", 2, 12);
        bad("root(1,2,3)", 2, 5);
        bad("root(cut,2,3)", 2, 5);
        bad("root(f,2)", 2, 8);
        bad("root(f(1),2,3)", 2, 6);
        bad("cut(1,2)", 2, 5);
        bad("f()", 2, 2);
        bad("f(1,2,3,4)", 2, 7);
        bad("f(1", 2, 3);
        bad("x=", 2, 2);
        bad("x=1", 4, 0);
    }

    private void faultsOfSize() {
        String most = "1" + times(19, "+1");
        formula(0, most + " ", 39);
        formula(0, "-" + most, 40);
        bad(most + "+1", 3, 40);
        bad("-" + most + "+1", 3, 40);
        bad("-" + most + "<1", 3, 40);
        bad("-" + most + "+", 3, 40);
        bad("-" + most + ")", 2, 40);
        bad("-" + most + "$", 1, 40);
        bad(most + "+$", 1, 40);
        bad(most + "+)", 2, 40);
        bad(most + "+(1)", 3, 41);
        bad(most + "+(-1)", 3, 41);
        bad(most + "+Aa0", 3, 40);
        bad(most + "+sum(Aa0:Ab0)", 3, 40);
        bad(most + "+zz", 3, 40);
        bad("1" + times(18, "+1") + "+sum(Aa0:Ab0)+1", 3, 50);
        bad("1" + times(17, "+1") + "+-sum( Aa0:Ab0)+1", 3, 51);
        bad("-1" + times(17, "+1") + "+--sum( Aa0:Ab0)", 3, 44);
        bad("1.5" + times(19, "+1") + "+abcdefghi", 1, 42);
        // The NAME of root is no PART.
        function("f(a)=a", 0);
        formula(0, "1" + times(17, "+1") + "+root(f,1,2)", 39);
        formula(0, "-1" + times(17, "+1") + "+root(f,1,2)", 40);
        formula(0, times(10, "(") + "1" + times(10, ")"), 1);
        bad(times(11, "(") + "1" + times(11, ")"), 3, 10);
        formula(0, times(10, "-") + "1", 11);
        bad(times(11, "-") + "1", 3, 10);
        formula(0, times(5, "-(") + "1" + times(5, ")"), 6);
        bad(times(5, "-(") + "-1" + times(5, ")"), 3, 10);
        bad(times(10, "(") + "f(1" + times(11, ")"), 3, 11);
        bad(times(10, "(") + "f (1" + times(11, ")"), 3, 12);
        formula(0, times(10, "(") + "1" + times(9, ")") + "+(1)+-1)", 6);
        formula(0, times(10, "f(") + "1" + times(10, ")"), 11);
        bad(times(11, "f(") + "1" + times(11, ")"), 3, 21);
        bad(times(10, "-") + "sum(Aa0:Ab0)", 3, 13);
        bad(times(10, "-") + "sum", 2, 13);
        formula(0, "-1" + times(9, "--1"), 29);
        // FAULT 3 comes ahead of an earlier 4.
        bad("zz" + times(20, "+1"), 3, 41);
    }

    private void faultsOfNames() {
        constant(3, "k=1", 0);
        constant(2, "j=1", 0);
        function("f(a)=a", 0);
        function("g(a,b)=a", 1);
        bad("k+j", 4, 2);
        bad("f", 4, 0);
        bad("k(1)", 4, 0);
        bad("1+f(1,2)", 4, 2);
        bad("g(1)", 4, 0);
        bad("g(zz,f(1,2),yy)", 4, 0);
        bad("g(zz,f(1,2))", 4, 2);
        bad("root(g,1,2)", 4, 5);
        bad("root( zz,1,2)", 4, 6);
        bad("sum(Aa0:Ba0)", 4, 4);
        bad("sum(Ab0:Aa0)", 4, 4);
        bad("sum(Aa1:Ab0)", 4, 4);
        bad("line(zz,Aa0:Ba0,Aa0:Ba0)", 4, 5);
        formula(255, "sum(Dh7:Dh7)", 2);
        formula(255, "sum(Da0:Dh7)", 2);
        constant(0, "c=Aa0", -104);
        due("fault()", x.fault(), 2);
        constant(0, "c=1+sum(Aa0:Ab0)", -104);
        due("fault()", x.fault(), 8);
        constant(0, "c=f(1)+root(f,0,1)+d", -104);
        due("fault()", x.fault(), 19);
        constant(0, "c=c", -104);
        function("h(a)=b", -104);
        due("fault()", x.fault(), 5);
        function("h(a)=k", -104);
        function("h(a)=Aa0", -104);
        function("h(a)=h(a,a)", -104);
        due("fault()", x.fault(), 5);
        function("h(a)=a(a)", -104);
        function("h(a,b)=root(h,a,b)", -104);
        due("fault()", x.fault(), 12);
        function("h(a)=h(h(a))+root(h,a,a)", 2);
        bad("1+zz)", 2, 4);
    }

    private void faultsOfHeads() {
        function(" f(a,b)=a", 0);
        function(" f(a)=b", -105);
        due("fault()", x.fault(), 1);
        function("g(a,a)=b", -105);
        due("fault()", x.fault(), 4);
        function("g(a,b, a)=zz", -105);
        due("fault()", x.fault(), 7);
        function("f(a,a,b)=a", -105);
        due("fault()", x.fault(), 0);
        function("f(a,a)=a", -105);
        due("fault()", x.fault(), 4);
        function("f(a)=1+", -102);
        function("f(f,a)=f+f(a,f)", 0);
        function("g(a,b,c)=a", 1);
    }

    private void printing() {
        due("cell -1", x.print(-1), -1);
        due("cell 256", x.print(256), -1);
        due("no FORMULA", x.print(0), -3);
        x.whole(0, 3);
        due("a VALUE", x.print(0), -3);
        printed("007", "7");
        printed("000", "0");
        printed("10", "10");
        printed("00.500", "0.500");
        printed("012.0", "12.0");
        x = new LoadBook();
        constant(3, "k=1", 0);
        function("f(a)=a", 0);
        function("g(a,b,c)=a", 1);
        printed(" 1 + 2 * 3 - 4 ", "((1+(2*3))-4)");
        printed("1*2/3%4", "(((1*2)/3)%4)");
        printed("1-(2-3)", "(1-(2-3))");
        printed("-1*2", "((-1)*2)");
        printed("--k", "(-(-k))");
        printed("-(1+2)", "(-(1+2))");
        printed("1+2 <= 3*4", "((1+2)<=(3*4))");
        printed("(1<2)=(3<>4)", "((1<2)=(3<>4))");
        printed("if(1,(2),try(k,Aa0))", "if(1,2,try(k,Aa0))");
        x = new LoadBook();
        function("f(a)=a", 0);
        function("g(a,b,c)=a", 1);
        printed("sum( Aa0 : Ah7 )", "sum(Aa0:Ah7)");
        printed("least(Aa0:Ab0)+most(Aa0:Ab0)", "(least(Aa0:Ab0)+most(Aa0:Ab0))");
        printed("at(Aa0:Ab0,1+1)", "at(Aa0:Ab0,(1+1))");
        printed("line(1+2,Aa0:Ab0,Ac0:Ad0)", "line((1+2),Aa0:Ab0,Ac0:Ad0)");
        printed("area(Aa0:Ab0,Ac0:Ad0)", "area(Aa0:Ab0,Ac0:Ad0)");
        printed("root( f ,0,1-2)", "root(f,0,(1-2))");
        printed("cut(1.50)+real(1)", "(cut(1.50)+real(1))");
        printed("g(1,f(2+3),-4)", "g(1,f((2+3)),(-4))");
        x.print(255);
        due("a print that fails leaves OUT", x.print(254), -3);
        due("count(6)", x.count(6), 18);
    }

    private void signs() {
        due("none yet", x.sign(0), -1);
        tell(0, "Aa0<>1.5");
        due("print", x.print(0), 10);
        String want = "(Aa0<>1.5)";
        for (int i = 0; i < want.length(); i++) {
            due("sign(" + i + ")", x.sign(i), want.charAt(i));
        }
        due("sign(-1)", x.sign(-1), -1);
        due("sign(10)", x.sign(10), -1);
        x.empty(0);
        due("OUT stays", x.sign(0), '(');
        tell(0, "1");
        x.print(0);
        due("a shorter one", x.sign(1), -1);
    }

    private void taking() {
        due("take of none", x.take(), 0);
        tell(0, "1 + 2");
        x.print(0);
        type("zzzzz");
        due("take", x.take(), 5);
        due("THE TEXT is OUT", x.count(5), 5);
        due("OUT stays", x.count(6), 5);
        due("formula", x.formula(1), 3);
        due("print", x.print(1), 5);
        // Each sign between gains two brackets.
        String wide = "0.1234567890123" + times(10, "+1.1234567890123") + times(9, "+Aa0");
        due("it fits", wide.length() <= 240 ? 1 : 0, 1);
        tell(2, wide);
        due("print", x.print(2), wide.length() + 2 * 19);
        type("5");
        due("too long", x.take(), -2);
        due("THE TEXT stays", x.count(5), 1);
        due("formula", x.formula(3), 1);
        tell(6, times(11, "99999999999999999+") + "1234567+1234567890");
        due("240", x.print(6), 240);
        due("take", x.take(), 240);
        due("twelve brackets in one another", x.formula(7), -103);
        tell(6, times(11, "99999999999999999+") + "1234567+12345678901");
        due("241", x.print(6), 241);
        due("take", x.take(), -2);
    }
}
