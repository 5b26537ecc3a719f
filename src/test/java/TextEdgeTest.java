/**
 * Section 1, TEXTS, and promises 2 to 13: for each sentence that names a boundary, what lies just inside
 * it, at it and just outside it. What TellingTest holds already is not written twice.
 */
public final class TextEdgeTest extends Checks {
    /** Each PART's place is marked by a ^ ahead of it. */
    private static final String[] WITH_PARTS = {
        "^1", "^1.5", "^Aa0", "^k", "^-^1", "(^1)", "^1^+^2", "^1^<^2", "^1^<=^2", "^1^=^2", "^1^<>^2", "^1^*^2", "^1^/^2",
        "^1^%^2", "^1^-^2", "^if(^1,^2,^3)", "^try(^1,^2)", "^sum(^Aa0:Ab0)", "^least(^Aa0:Ab0)", "^most(^Aa0:Ab0)",
        "^count(^Aa0:Ab0)", "^at(^Aa0:Ab0,^1)", "^line(^1,^Aa0:Ab0,^Ac0:Ad0)", "^area(^Aa0:Ab0,^Ac0:Ad0)",
        "^root(f,^1,^2)", "^cut(^1)", "^real(^1)", "^f(^1)", "^g(^1,^2,^3)", "^if ( ^k ^<> ^- ^k , ^f ( ^k ) , ( ^2 ) )",
    };
    /** What has a ( or a - of its own, whose place is marked by a ^, with a 1 in it where more can stand. */
    private static final String[] WITH_OPEN = {
        "^(1)", "^-1", "if^(1,2,3)", "try^(1,2)", "sum^(Aa0:Ab0)", "least^(Aa0:Ab0)", "most^(Aa0:Ab0)", "count^(Aa0:Ab0)",
        "at^(Aa0:Ab0,1)", "line^(1,Aa0:Ab0,Aa0:Ab0)", "area^(Aa0:Ab0,Aa0:Ab0)", "root^(f,1,2)", "cut^(1)", "real ^(1)",
        "f^(1)", "g  ^(1,2,3)",
    };

    private TextEdgeTest(String name) {
        super(name);
    }

    public static void main(String[] args) {
        new TextEdgeTest("7 formula, CELLS").cellNumbers();
        new TextEdgeTest("2 type, 240 bytes").roomForText();
        new TextEdgeTest("3 wipe, what takes THE TEXT").whatTakesText();
        new TextEdgeTest("10 fault, single bytes").singleBytes();
        new TextEdgeTest("10 fault, a byte behind another").followingBytes();
        new TextEdgeTest("10 fault, bytes of a REF").refBytes();
        new TextEdgeTest("10 fault, NAMES of 8").nameLengths();
        new TextEdgeTest("10 fault, WORDS").words();
        new TextEdgeTest("10 fault, WHOLES of 18").wholeLengths();
        new TextEdgeTest("10 fault, DECIMALS of 15").decimalLengths();
        new TextEdgeTest("10 fault, 40 PARTS").fortyParts();
        new TextEdgeTest("10 fault, 10 OPEN").tenOpen();
        new TextEdgeTest("10 fault, the first one").firstFault();
        new TextEdgeTest("10 fault, 2 in R").halfRanges();
        new TextEdgeTest("10 fault, 4 of R").soundRanges();
        new TextEdgeTest("7 formula, 48").formulaRoom();
        new TextEdgeTest("8 function, 8").functionRoom();
        new TextEdgeTest("8 function, 1 to 3 ARGUMENTS").argumentNumbers();
        new TextEdgeTest("9 constant, 5").constantRoom();
        new TextEdgeTest("11 print, 0s ahead").zerosAhead();
        new TextEdgeTest("12 sign").signPlaces();
        new TextEdgeTest("13 take, 240 bytes").takeRoom();
        end("TextEdgeTest");
    }

    private static String ref(int cell) {
        StringBuilder b = new StringBuilder();
        b.append("ABCD".charAt(cell / 64)).append("abcdefgh".charAt(cell % 8)).append("01234567".charAt(cell / 8 % 8));
        return b.toString();
    }

    /** 64 times the SHEET, 8 times the row, and the column, for each of the 256. */
    private void cellNumbers() {
        for (int cell = 0; cell < 256; cell++) {
            if (cell % 64 == 0) {
                x = new LoadBook();
            }
            formula(9, ref(cell), 1);
            due("needs of " + ref(cell), x.needs(9, 0), cell);
            due("needed by", x.neededBy(cell, 0), 9);
        }
    }

    private void roomForText() {
        type(times(231, "1"));
        due("eight more: 239", x.type(0x3131313131313131L), 239);
        due("two more", x.type(0x3131), -2);
        due("two more, 0s between", x.type(0x3100000000000031L), -2);
        due("one more: 240", x.type(0x3100000000000000L), 240);
        due("one more", x.type(1), -2);
        due("none more", x.type(0), 240);
        due("wipe", x.wipe(), 240);
        type(times(232, "1"));
        due("eight more: 240", x.type(0x3131313131313131L), 240);
        x.wipe();
        type(times(234, " "));
        due("seven more", x.type(0x31313131313131L), -2);
        due("six more", x.type(0x313131313131L), 240);
        due("a text of 240 bytes", x.formula(0), 1);
        type(times(239, " ") + "(");
        due("one that ends too soon", x.formula(0), -102);
        due("behind the 240th byte", x.fault(), 240);
    }

    private void whatTakesText() {
        String[] texts = {"1", "k=1", "f(a)=a", "$", "", "zz(1)"};
        for (String text : texts) {
            type(text);
            x.formula(3);
            due("THE TEXT behind formula() of " + text, x.count(5), 0);
            type(text);
            x.function();
            due("THE TEXT behind function() of " + text, x.count(5), 0);
            type(text);
            x.constant(3);
            due("THE TEXT behind constant() of " + text, x.count(5), 0);
            type(text);
            due("print", x.print(3), 1);
            x.sign(0);
            x.recalculate();
            due("THE TEXT stays otherwise", x.wipe(), text.length());
        }
    }

    private void code(String text, int number, int place) {
        formula(255, text, number > 0 ? -100 - number : -number);
        due("fault() of " + text, x.fault(), place);
    }

    /** What each byte is when it stands alone. */
    private void singleBytes() {
        for (int b = 1; b < 256; b++) {
            if (b % 64 == 0) {
                x = new LoadBook();
            }
            String text = String.valueOf((char) b);
            if (b >= '0' && b <= '9') {
                code(text, -1, -1);
            } else if (b >= 'a' && b <= 'z') {
                code(text, 4, 0);
            } else if (b == ' ' || b == '-' || b == '(') {
                code(text, 2, 1);
            } else if ("+*/%),:<=".indexOf(b) >= 0) {
                code(text, 2, 0);
            } else {
                code(text, 1, 0);
            }
        }
    }

    /** What each byte is behind a WHOLE: one more digit, a sign with which it goes on, or a FAULT. */
    private void followingBytes() {
        for (int b = 1; b < 256; b++) {
            if (b % 64 == 0) {
                x = new LoadBook();
            }
            String text = "7" + (char) b;
            if (b >= '0' && b <= '9' || b == ' ') {
                code(text, -1, -1);
            } else if ("+-*/%<=".indexOf(b) >= 0) {
                code(text, 2, 2);
            } else if (b >= 'a' && b <= 'z' || "():,".indexOf(b) >= 0) {
                code(text, 2, 1);
            } else {
                code(text, 1, 1);
            }
        }
    }

    private void refBytes() {
        for (int b = 33; b < 127; b++) {
            if (b % 24 == 0) {
                x = new LoadBook();
            }
            char c = (char) b;
            code("1+A" + c + "0", c >= 'a' && c <= 'h' ? -3 : 1, c >= 'a' && c <= 'h' ? -1 : 2);
            code("1+Db" + c, c >= '0' && c <= '7' ? -3 : 1, c >= '0' && c <= '7' ? -1 : 2);
            if (c >= 'A' && c <= 'Z') {
                code("1+" + c + "a0", c <= 'D' ? -3 : 1, c <= 'D' ? -1 : 2);
            }
        }
        code("Aa", 1, 0);
        code("D", 1, 0);
        code("Aa0Bb1", 2, 3);
        code("Aa0 Bb1", 2, 4);
        code("Aa 0", 1, 0);
        code("kAa0", 2, 1);
    }

    private void nameLengths() {
        constant(3, "abcdefg=1", 0);
        constant(3, "abcdefgh=2", 1);
        constant(3, "abcdefgi=3", 2);
        constant(3, "zbcdefgh=4", 3);
        constant(3, "abcdefghi=5", -101);
        due("fault()", x.fault(), 0);
        gives("abcdefg+10*abcdefgh+100*abcdefgi+1000*zbcdefgh", 4321);
        code("1+abcdefghi", 1, 2);
        code("1+abcdefgha", 1, 2);
        code("1 abcdefghi", 1, 2);
        code("abcdefgh abcdefgh", 2, 9);
        function("longname(longarga,longargb)=longarga-longargb", 0);
        gives("longname(9,2)", 7);
        function("longnames(a)=a", -101);
        due("fault()", x.fault(), 0);
        function("f(longargab)=1", -101);
        due("fault()", x.fault(), 2);
        function("f(a)=longnameb(a)", -101);
        due("fault()", x.fault(), 5);
        code("root(longnames,1,2)", 1, 5);
        // A WORD is one as a whole TOKEN only.
        constant(3, "sums=1", 4);
        gives("sums", 1);
    }

    private void words() {
        String[] words = {"if", "try", "sum", "least", "most", "count", "at", "line", "area", "root", "cut", "real"};
        for (String word : words) {
            constant(0, word + "=1", -102);
            due("fault()", x.fault(), 0);
            function(word + "(a)=a", -102);
            due("fault()", x.fault(), 0);
            function("f(" + word + ")=1", -102);
            due("fault()", x.fault(), 2);
            function("f(a," + word + ")=1", -102);
            due("fault()", x.fault(), 4);
            code("root(" + word + ",1,2)", 2, 5);
            code(word, 2, word.length());
            code(word + "()", 2, word.length() + 1);
            code("1+" + word + "+1", 2, word.length() + 2);
        }
    }

    private void wholeLengths() {
        gives("99999999999999999", 99999999999999999L);
        gives("999999999999999999", 999999999999999999L);
        code("9999999999999999999", 1, 0);
        gives("000000000000000007", 7);
        code("0000000000000000007", 1, 0);
        code("1-1000000000000000000", 1, 2);
        gives("-999999999999999999", -999999999999999999L);
        code("123456789012345678 9", 2, 19);
        code("1234567890123456789.", 1, 0);
        code("123456789012345678.", 1, 18);
    }

    private void decimalLengths() {
        String digits = "123456789012345";
        for (int ahead = 1; ahead < 15; ahead++) {
            double want = 123456789012345.0 / Math.pow(10, 15 - ahead);
            gives(digits.substring(0, ahead) + "." + digits.substring(ahead), want);
            code("1+" + digits.substring(0, ahead) + "." + digits.substring(ahead) + "0", 1, 2);
            code("1+0" + digits.substring(0, ahead) + "." + digits.substring(ahead), 1, 2);
            if (ahead == 7) {
                x = new LoadBook();
            }
        }
        x = new LoadBook();
        gives("0.00000000000001", 1e-14);
        gives("00000000000000.1", 0.1);
        gives("1.2345678901234", 12345678901234.0 / 1e13);
        code("123456789012345.", 1, 15);
        code("123456789012345.1", 1, 0);
        code("123456789012345678.1", 1, 0);
        code("1.", 1, 1);
        code("1.a", 1, 1);
        code("1.+1", 1, 1);
        code("1 . 1", 1, 2);
        code("1.1.", 1, 3);
        code("1.1.1", 1, 3);
        code("1.1 .1", 1, 4);
        code("1.1 1.1", 2, 4);
        code(".1", 1, 0);
    }

    /** So many PARTS, and a + behind which one more can stand. */
    private static String partsThatGoOn(int n) {
        return (n % 2 == 1 ? "-1" : "1") + times((n - 2 - n % 2) / 2, "+1") + "+";
    }

    private void fortyParts() {
        for (String marked : WITH_PARTS) {
            x = new LoadBook();
            function("f(a)=a", 0);
            function("g(a,b,c)=a", 1);
            constant(3, "k=1", 0);
            String text = marked.replace("^", "");
            int n = marked.length() - text.length();
            formula(255, text, n);
            formula(255, partsThatGoOn(39 - n) + text, 39);
            formula(255, partsThatGoOn(40 - n) + text, 40);
            int place = -1;
            for (int i = 1; i <= n; i++) {
                place = marked.indexOf('^', place + 1);
                String ahead = partsThatGoOn(41 - i);
                // The i-th is the 41st: its place, and nothing of what comes behind it.
                bad(ahead + text, 3, ahead.length() + place - i + 1);
                bad(ahead + text + "$", 3, ahead.length() + place - i + 1);
            }
        }
        partsOfOthers();
    }

    /** The 40 are those of an E: what stands ahead of a FUNCTION's or CONSTANT's = is none. */
    private void partsOfOthers() {
        x = new LoadBook();
        String most = partsThatGoOn(39) + "1";
        constant(3, "k=" + most, 0);
        constant(3, "k=" + most + "+1", -103);
        due("fault()", x.fault(), 2 + most.length());
        function("f(a,b,c)=" + most.replace("1", "a"), 0);
        function("f(a,b,c)=" + most + "+1", -103);
        due("fault()", x.fault(), 9 + most.length());
    }

    private void tenOpen() {
        for (String marked : WITH_OPEN) {
            x = new LoadBook();
            function("f(a)=a", 0);
            function("g(a,b,c)=a", 1);
            String text = marked.replace("^", "");
            int place = marked.indexOf('^');
            tell(255, times(8, "(") + text + times(8, ")"));
            tell(255, times(9, "(") + text + times(9, ")"));
            bad(times(10, "(") + text + times(10, ")"), 3, 10 + place);
            bad(times(10, "(") + text + "$", 3, 10 + place);
            tell(255, times(9, "-") + text);
            bad(times(10, "-") + text, 3, 10 + place);
            // It is closed again where it ends.
            tell(255, times(9, "(") + text + "+" + text + times(9, ")"));
            tell(255, times(9, "(") + text + "+-1)+" + times(1, "(-1)") + times(8, ")"));
            bad(times(9, "(") + text + "+(" + text + ")" + times(9, ")"), 3, 9 + text.length() + 2 + place);
        }
        openInOthers();
    }

    private void openInOthers() {
        x = new LoadBook();
        function("f(a)=" + times(10, "(") + "a" + times(10, ")"), 0);
        function("f(a)=" + times(11, "-") + "a", -103);
        due("fault()", x.fault(), 15);
        constant(0, "k=" + times(10, "-") + "1", 0);
        constant(0, "k=" + times(11, "(") + "1" + times(11, ")"), -103);
        due("fault()", x.fault(), 12);
        // Each E that stands in a CALL is one deeper, whichever it is.
        String nine = times(8, "(") + "-1" + times(8, ")");
        formula(0, "if(" + nine + "," + nine + "," + nine + ")", 7);
        bad("if((" + nine + "),1,1)", 3, 12);
        bad("if(1,(" + nine + "),1)", 3, 14);
        bad("if(1,1,(" + nine + "))", 3, 16);
        bad("at(Aa0:Ab0,(" + nine + "))", 3, 20);
        bad("line((" + nine + "),Aa0:Ab0,Aa0:Ab0)", 3, 14);
    }

    /** FAULTS 1 to 3 by place, of one place the least number; 4 and 5 where there is none of these. */
    private void firstFault() {
        constant(3, "k=1", 0);
        function("f(a)=a", 0);
        String forty = partsThatGoOn(39) + "1";
        bad("1 abcdefghi", 1, 2);
        bad("1 1234567890123456789", 1, 2);
        bad("k A9", 1, 2);
        bad("k 1 A9", 2, 2);
        bad(") $", 2, 0);
        bad("$ )", 1, 0);
        bad(forty + " abcdefghi", 1, forty.length() + 1);
        bad(forty + " 1", 2, forty.length() + 1);
        bad(forty + " +$", 3, forty.length() + 1);
        bad(forty + " + )", 3, forty.length() + 1);
        bad(partsThatGoOn(40) + "$", 1, partsThatGoOn(40).length());
        bad(partsThatGoOn(40) + ")", 2, partsThatGoOn(40).length());
        bad(partsThatGoOn(40) + "1", 3, partsThatGoOn(40).length());
        bad(times(10, "(") + "1(", 2, 11);
        bad(times(10, "(") + "($", 3, 10);
        bad(times(10, "(") + "f 1", 2, 12);
        bad("zz+yy", 4, 0);
        bad("k+yy+zz", 4, 2);
        bad("zz+", 2, 3);
        bad("zz+$", 1, 3);
        bad("f(1,2)+zz", 4, 0);
        function("f(b,b)=zz", -105);
        due("fault()", x.fault(), 0);
        function("g(b,b)=zz", -105);
        due("fault()", x.fault(), 4);
        function("g(b)=zz+g(1,2)", -104);
        due("fault()", x.fault(), 5);
        function("g(b,b)=", -102);
        due("fault()", x.fault(), 7);
        function("f(a,b)=$", -101);
        due("fault()", x.fault(), 7);
        constant(3, "l=l+Aa0", -104);
        due("fault()", x.fault(), 2);
    }

    /** An R is REF : REF, and nothing else is one. */
    private void halfRanges() {
        bad("sum(:Aa0)", 2, 4);
        bad("sum(Aa0:)", 2, 8);
        bad("sum(Aa0::Aa0)", 2, 8);
        bad("sum(Aa0 Aa0)", 2, 8);
        bad("sum(Aa0:Aa0:Aa0)", 2, 11);
        bad("sum(-Aa0:Aa0)", 2, 4);
        bad("sum(Aa0:-Aa0)", 2, 8);
        bad("sum()", 2, 4);
        bad("sum(Aa0:Aa0,1)", 2, 11);
        bad("at(Aa0:,1)", 2, 7);
        bad("area(Aa0:Ab0,Aa0)", 2, 16);
        bad("area(Aa0:Ab0,:Aa0)", 2, 13);
        bad("area(Aa0:Ab0)", 2, 12);
        bad("area(Aa0:Ab0,Aa0:Ab0,1)", 2, 20);
        bad("line(Aa0:Ab0,Aa0:Ab0,Aa0:Ab0)", 2, 8);
        bad("line(1,Aa0:Ab0)", 2, 14);
        bad("if(Aa0:Ab0,1,2)", 2, 6);
        bad("cut(Aa0:Ab0)", 2, 7);
    }

    /** An R of two SHEETS, of a lesser row or column; of one row, column or cell it is sound. */
    private void soundRanges() {
        formula(255, "sum(Ac3:Ac3)", 2);
        formula(255, "sum(Ac3:Ad3)", 2);
        formula(255, "sum(Ac3:Ac4)", 2);
        bad("sum(Ac3:Ab3)", 4, 4);
        bad("sum(Ac3:Ac2)", 4, 4);
        bad("sum(Ac3:Ab4)", 4, 4);
        bad("sum(Ac3:Ad2)", 4, 4);
        bad("sum(Ac3:Bc3)", 4, 4);
        bad("sum(Bc3:Ac3)", 4, 4);
        bad("sum(Ac3:Bd4)", 4, 4);
        bad("area(Aa0:Ab0, Ab0:Aa0)", 4, 14);
        bad("line(1,Aa0:Ab0,Aa1:Aa0)", 4, 15);
        bad("at(Aa0:Ba0,zz)", 4, 3);
        formula(255, "sum(Ba0:Bh7)", 2);
        function("f(a)=sum(Aa0:Ab0)", -104);
        due("fault()", x.fault(), 9);
        function("f(a)=at(Ab0:Aa0,Aa0)", -104);
        due("fault()", x.fault(), 8);
        constant(0, "k=1+area(Aa0:Ab0,Aa0:Ab0)", -104);
        due("fault()", x.fault(), 9);
        constant(0, "k=1+Aa0", -104);
        due("fault()", x.fault(), 4);
    }

    private void formulaRoom() {
        for (int c = 0; c < 47; c++) {
            formula(5 * c, "1", 1);
        }
        due("47", x.count(1), 47);
        formula(255, "1", 1);
        due("48", x.count(1), 48);
        formula(254, "1", -2);
        formula(255, "1+1", 3);
        formula(0, "1+1", 3);
        due("48 still", x.count(1), 48);
        x.whole(0, 1);
        formula(254, "1", 1);
        formula(0, "1", -2);
        due("its VALUE stays", x.value(0), 1);
        x.number(5, 1, 0);
        formula(0, "1", 1);
        formula(5, "1", -2);
        x.empty(10);
        formula(5, "1", 1);
        due("48 again", x.count(1), 48);
    }

    private void functionRoom() {
        for (int i = 0; i < 7; i++) {
            function((char) ('a' + i) + "(x)=x+" + i, i);
        }
        due("7", x.count(2), 7);
        function("h(x)=h(x)", 7);
        function("i(x)=x", -2);
        due("8", x.count(2), 8);
        function("a(x)=x*2", 0);
        function("h(x)=x*3", 7);
        gives("a(4)+h(5)+g(1)", 8 + 15 + 7);
        code("i(1)", 4, 0);
    }

    private void argumentNumbers() {
        function("n()=1", -102);
        function("a(p)=p", 0);
        function("b(p,q)=p*10+q", 1);
        function("c(p,q,r)=p*100+q*10+r", 2);
        function("d(p,q,r,s)=1", -102);
        due("fault()", x.fault(), 7);
        gives("a(1)+b(2,3)+c(4,5,6)", 1 + 23 + 456);
        code("a()", 2, 2);
        code("a(1,2)", 4, 0);
        code("b(1)", 4, 0);
        code("b(1,2,3)", 4, 0);
        code("c(1,2)", 4, 0);
        code("c(1,2,3,4)", 2, 7);
        code("root(b,1,2)", 4, 5);
        code("root(c,1,2)", 4, 5);
        function("a(p,q)=p", -105);
        function("c(p,q)=p", -105);
        function("e(p,p)=p", -105);
        due("fault()", x.fault(), 4);
        function("e(p,q,p)=p", -105);
        due("fault()", x.fault(), 6);
        function("e(p,q,q)=p", -105);
        due("fault()", x.fault(), 6);
        due("count(2)", x.count(2), 3);
    }

    private void constantRoom() {
        for (int sheet = 0; sheet < 4; sheet++) {
            constant(sheet, "a=1", 0);
            constant(sheet, "b=a+1", 1);
            constant(sheet, "c=b+1", 2);
            constant(sheet, "d=c+1", 3);
            due("4", x.count(7 + sheet), 4);
            constant(sheet, "e=d+a", 4);
            due("5", x.count(7 + sheet), 5);
            constant(sheet, "f=1", -2);
            constant(sheet, "e=a+d+" + sheet, 4);
            constant(sheet, "a=1+0", 0);
            constant(sheet, "c=c", -104);
            constant(sheet, "c=d", -104);
            constant(sheet, "c=b", 2);
            due("5 still", x.count(7 + sheet), 5);
        }
        x.recalculate();
        for (int sheet = 0; sheet < 4; sheet++) {
            due("e", x.named(sheet, 4, 1), 1 + 3 + sheet);
            due("one beyond", x.named(sheet, 5, 1), -1);
        }
    }

    private void zerosAhead() {
        printed("0", "0");
        printed("00", "0");
        printed("01", "1");
        printed("10", "10");
        printed("000000000000000000", "0");
        printed("999999999999999999", "999999999999999999");
        printed("0.0", "0.0");
        printed("00.0", "0.0");
        printed("01.10", "1.10");
        printed("10.01", "10.01");
        printed("0.00000000000000", "0.00000000000000");
        printed("00000000000000.1", "0.1");
        printed("12345678901234.5", "12345678901234.5");
        printed("Dh7", "Dh7");
        printed("- - 01", "(-(-1))");
    }

    private void signPlaces() {
        due("sign(0) of none", x.sign(0), -1);
        tell(7, "Ba1");
        x.print(7);
        due("sign(-1)", x.sign(-1), -1);
        due("sign(0)", x.sign(0), 'B');
        due("sign(2)", x.sign(2), '1');
        due("sign(3)", x.sign(3), -1);
        due("sign of the greatest", x.sign(Integer.MAX_VALUE), -1);
        due("sign of the least", x.sign(Integer.MIN_VALUE), -1);
        tell(7, times(39, "9+").substring(0, 39));
        due("print", x.print(7), 20 + 19 * 3);
        due("the last", x.sign(76), ')');
        due("behind the last", x.sign(77), -1);
    }

    private void takeRoom() {
        String most = times(11, "99999999999999999+");
        tell(6, most + "1234567+123456789");
        due("239", x.print(6), 239);
        due("take", x.take(), 239);
        due("THE TEXT", x.count(5), 239);
        due("one more", x.type('1'), 240);
        due("two more", x.type('1'), -2);
        x.wipe();
        tell(6, most + "1234567+1234567890");
        due("240", x.print(6), 240);
        due("take", x.take(), 240);
        x.wipe();
        tell(6, most + "1234567+12345678901");
        due("241", x.print(6), 241);
        type("77");
        due("take", x.take(), -2);
        due("THE TEXT stays", x.count(5), 2);
        due("OUT stays", x.count(6), 241);
        due("it is 77", x.formula(0), 1);
        due("print", x.print(0), 2);
        due("take", x.take(), 2);
        due("formula", x.formula(1), 1);
    }
}
