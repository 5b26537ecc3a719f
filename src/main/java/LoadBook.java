/**
 * A ship's load book: sheets of cells with numbers and formulas, worked anew in order when
 * something was changed.
 *
 * <p>A text is read once, by {@link Parser}, into a flat {@link Code} that {@link Machine} runs on
 * stacks of its own: twenty calls of functions, each with an expression of its own depth, would
 * otherwise stand open on Java's stack all at once.
 */
public final class LoadBook {
    public static final int NONE = -1;

    private static final int CELLS = 256;
    private static final int SHEETS = 4;
    private static final int TEXT_ROOM = 240;
    /** A text of 240 bytes gains two brackets for each of 40 PARTS at most when it is printed. */
    private static final int OUT_ROOM = 400;
    private static final int FORMULAS = 48;
    private static final int FUNCTIONS = 8;
    private static final int CONSTANTS = 5;
    private static final int ARGUMENTS = 3;
    private static final int EDITIONS = 10;
    private static final int READS = 24;

    private static final int IS_EMPTY = 0;
    private static final int IS_LONG = 1;
    private static final int IS_DOUBLE = 2;
    private static final int FAILED = 3;
    private static final int ON_CYCLE = 4;
    private static final int HANGS = 5;
    private static final int TOLD = 6;

    private static final int DIVISION = 1;
    private static final int INDEX = 2;
    private static final int VACANT = 3;
    private static final int DEEP = 4;
    private static final int BEYOND = 5;
    private static final int NO_ROOT = 6;
    private static final int TABLE = 7;
    private static final int SPENT = 8;
    private static final int CYCLE = 9;
    private static final int SPOILED = 10;
    private static final int SORT = 11;

    private final Text text = new Text(TEXT_ROOM);
    private final Text out = new Text(OUT_ROOM);
    private final Machine machine = new Machine();
    private final Cell[] cells = machine.cells;
    private final Code[] functions = machine.functions;
    private final Sheet[] sheets = new Sheet[SHEETS];
    private final Parser parser = new Parser(functions);
    private final Plan plan = new Plan();
    private final byte[] oldStates = new byte[EDITIONS * CELLS];
    private final long[] oldValues = new long[EDITIONS * CELLS];
    private int functionCount;
    private int formulaCount;
    private int editions;
    private int faultPlace = NONE;

    public LoadBook() {
        for (int i = 0; i < SHEETS; i++) {
            sheets[i] = new Sheet();
        }
    }

    public int type(long bytes) {
        int more = 0;
        for (int shift = 0; shift < 64; shift += 8) {
            if (((bytes >>> shift) & 255) != 0) {
                more++;
            }
        }
        if (text.size + more > TEXT_ROOM) {
            return -2;
        }
        for (int shift = 0; shift < 64; shift += 8) {
            int one = (int) ((bytes >>> shift) & 255);
            if (one != 0) {
                text.add(one);
            }
        }
        return text.size;
    }

    public int wipe() {
        int had = text.size;
        text.size = 0;
        return had;
    }

    public int whole(int cell, long v) {
        if (noCell(cell)) {
            return -1;
        }
        tellPlainly(cell).setLong(v);
        return 1;
    }

    public int number(int cell, long n, int e) {
        if (noCell(cell)) {
            return -1;
        }
        if (e < 0 || e > 15) {
            return -2;
        }
        tellPlainly(cell).setDouble(Real.shifted(n, e));
        return 1;
    }

    public int empty(int cell) {
        if (noCell(cell)) {
            return -1;
        }
        if (cells[cell].state == IS_EMPTY) {
            return 0;
        }
        tellPlainly(cell).setBare(IS_EMPTY);
        return 1;
    }

    public int formula(int cell) {
        if (noCell(cell)) {
            return -1;
        }
        int fault = parser.readFormula(text, sheets[cell >> 6]);
        endText();
        if (fault != 0) {
            return -100 - fault;
        }
        Cell told = cells[cell];
        if (told.code == null) {
            if (formulaCount >= FORMULAS) {
                return -2;
            }
            formulaCount++;
        }
        told.code = parser.draft.kept();
        told.makeReads();
        told.setBare(TOLD);
        told.told = true;
        return told.code.parts;
    }

    public int function() {
        int fault = parser.readFunction(text);
        endText();
        if (fault != 0) {
            return -100 - fault;
        }
        int number = parser.ownNumber;
        if (number < 0 || number >= FUNCTIONS) {
            return -2;
        }
        if (number >= functionCount) {
            functionCount = number + 1;
        }
        Code code = parser.draft.kept();
        code.name = parser.ownName;
        code.arity = parser.arity;
        code.told = true;
        functions[number] = code;
        return number;
    }

    public int constant(int sheet) {
        if (sheet < 0 || sheet >= SHEETS) {
            return -1;
        }
        int fault = parser.readConstant(text, sheets[sheet]);
        endText();
        if (fault != 0) {
            return -100 - fault;
        }
        int number = parser.ownNumber;
        if (number < 0 || number >= CONSTANTS) {
            return -2;
        }
        Code code = parser.draft.kept();
        code.name = parser.ownName;
        sheets[sheet].tell(number, code);
        return number;
    }

    public int fault() {
        return faultPlace;
    }

    public int print(int cell) {
        if (noCell(cell)) {
            return -1;
        }
        Code code = cells[cell].code;
        if (code == null) {
            return -3;
        }
        out.become(code.printed);
        return out.size;
    }

    public int sign(int i) {
        return out.at(i);
    }

    public int take() {
        if (out.size > TEXT_ROOM) {
            return -2;
        }
        text.become(out);
        return text.size;
    }

    public int recalculate() {
        int stale = staleFunctions();
        int staleSheets = workConstants(stale);
        plan.draw(cells);
        plan.mark(cells, stale, staleSheets);
        for (int turn = 0; turn < FORMULAS; turn++) {
            int cell = plan.next();
            if (cell == NONE) {
                break;
            }
            Cell one = cells[cell];
            Sheet sheet = sheets[cell >> 6];
            one.readCount = 0;
            if (plan.ringFirst != NONE) {
                one.setFailed(ON_CYCLE, CYCLE, plan.ringFirst, 0);
            } else if (sheet.spoil != 0) {
                one.setFailed(FAILED, SPOILED, cell, sheet.spoil);
            } else {
                machine.workOut(one, cell, sheet);
            }
        }
        forgetTold();
        keepEdition();
        return plan.doneCount;
    }

    public int state(int cell) {
        return noCell(cell) ? -1 : cells[cell].state;
    }

    public long value(int cell) {
        return noCell(cell) ? 0 : cells[cell].shownValue();
    }

    public int failure(int cell, int what) {
        if (noCell(cell)) {
            return -3;
        }
        if (what < 0 || what > 2) {
            return -2;
        }
        Cell one = cells[cell];
        if (!one.isBroken()) {
            return NONE;
        }
        return what == 0 ? one.kind : what == 1 ? one.first : one.cause;
    }

    public int done(int i) {
        return i >= 0 && i < plan.doneCount ? plan.doneCells[i] : NONE;
    }

    public int needs(int cell, int i) {
        if (noCell(cell)) {
            return NONE;
        }
        Code code = cells[cell].code;
        if (code == null || i < 0 || i >= code.needCount) {
            return NONE;
        }
        return code.needList[i];
    }

    public int neededBy(int cell, int i) {
        if (noCell(cell) || i < 0) {
            return NONE;
        }
        int left = i;
        for (int c = 0; c < CELLS; c++) {
            Code code = cells[c].code;
            if (code != null && code.hasNeed(cell)) {
                if (left == 0) {
                    return c;
                }
                left--;
            }
        }
        return NONE;
    }

    public int cycle(int i, int k) {
        return plan.ringCell(i, k);
    }

    public int trace(int cell, int i) {
        if (noCell(cell)) {
            return NONE;
        }
        Cell one = cells[cell];
        if (one.reads == null || i < 0 || i >= one.readCount) {
            return NONE;
        }
        return one.reads[i];
    }

    public long named(int sheet, int i, int what) {
        if (sheet < 0 || sheet >= SHEETS) {
            return -1;
        }
        Sheet one = sheets[sheet];
        if (i < 0 || i >= one.size) {
            return -1;
        }
        if (what < 0 || what > 2) {
            return -2;
        }
        Cell held = one.constants[i];
        if (what == 0) {
            return held.state;
        }
        if (what == 1) {
            return held.shownValue();
        }
        return held.isBroken() ? held.kind : 0;
    }

    public long old(int e, int cell, int what) {
        if (noCell(cell)) {
            return -1;
        }
        if (what < 0 || what > 1) {
            return -2;
        }
        if (e < 1 || e > editions || e <= editions - EDITIONS) {
            return -3;
        }
        int at = e % EDITIONS * CELLS + cell;
        return what == 0 ? oldStates[at] : oldValues[at];
    }

    public int count(int what) {
        if (what >= 7 && what <= 10) {
            return sheets[what - 7].size;
        }
        if (what >= 11 && what <= 14) {
            return sheets[what - 11].times;
        }
        switch (what) {
            case 0:
                return editions;
            case 1:
                return formulaCount;
            case 2:
                return functionCount;
            case 3:
                return plan.doneCount;
            case 4:
                return plan.rings;
            case 5:
                return text.size;
            case 6:
                return out.size;
            default:
                return NONE;
        }
    }

    private static boolean noCell(int cell) {
        return cell < 0 || cell >= CELLS;
    }

    /** Takes a cell's FORMULA away, if it has one, and notes that the cell was told. */
    private Cell tellPlainly(int cell) {
        Cell told = cells[cell];
        if (told.code != null) {
            told.code = null;
            formulaCount--;
        }
        told.readCount = 0;
        told.told = true;
        return told;
    }

    private void endText() {
        text.size = 0;
        faultPlace = parser.lexer.faultPlace;
    }

    /** A bit for each FUNCTION that was told, or whose E reaches one that was told. */
    private int staleFunctions() {
        int stale = 0;
        for (int i = 0; i < functionCount; i++) {
            if (functions[i] != null && functions[i].told) {
                stale |= 1 << i;
            }
        }
        // Each round but the last adds one of the eight, so eight rounds find them all.
        for (int round = 0; round < FUNCTIONS; round++) {
            for (int i = 0; i < functionCount; i++) {
                if (functions[i] != null && (functions[i].calls & stale) != 0) {
                    stale |= 1 << i;
                }
            }
        }
        return stale;
    }

    /** Works the CHANGED CONSTANTS out; a bit for each SHEET whose CONSTANTS they were. */
    private int workConstants(int stale) {
        int changed = 0;
        for (int s = 0; s < SHEETS; s++) {
            Sheet sheet = sheets[s];
            if (!sheet.isChanged(stale)) {
                continue;
            }
            changed |= 1 << s;
            sheet.beginAnew();
            for (int i = 0; i < sheet.size && sheet.spoil == 0; i++) {
                Cell one = sheet.constants[i];
                machine.workOut(one, NONE, sheet);
                if (one.isBroken()) {
                    sheet.spoil = one.kind;
                }
            }
        }
        return changed;
    }

    private void forgetTold() {
        for (int i = 0; i < CELLS; i++) {
            cells[i].told = false;
        }
        for (int i = 0; i < functionCount; i++) {
            if (functions[i] != null) {
                functions[i].told = false;
            }
        }
    }

    private void keepEdition() {
        editions++;
        int start = editions % EDITIONS * CELLS;
        for (int i = 0; i < CELLS; i++) {
            oldStates[start + i] = (byte) cells[i].state;
            oldValues[start + i] = cells[i].shownValue();
        }
    }

    /** A row of bytes with a bound: THE TEXT, OUT, and what a FORMULA is PRINTED as. */
    private static final class Text {
        final byte[] bytes;
        int size;

        Text(int room) {
            bytes = new byte[Math.max(room, 0)];
        }

        int at(int i) {
            return i >= 0 && i < size ? bytes[i] & 255 : NONE;
        }

        void add(int one) {
            if (size < bytes.length) {
                bytes[size] = (byte) one;
                size++;
            }
        }

        void insert(int place, int one) {
            if (place < 0 || place > size || size >= bytes.length) {
                return;
            }
            for (int i = size; i > place; i--) {
                bytes[i] = bytes[i - 1];
            }
            bytes[place] = (byte) one;
            size++;
        }

        void become(Text other) {
            size = 0;
            for (int i = 0; i < other.size; i++) {
                add(other.at(i));
            }
        }
    }

    /** Reads TOKENS, one at a time; behind the first FAULT it stands still. */
    private static final class Lexer {
        static final int LESS_EQUAL = 256;
        static final int UNLIKE = 257;
        static final int NAME = 258;
        static final int REF = 259;
        static final int WHOLE = 260;
        static final int DECIMAL = 261;
        static final int END = 262;
        static final int BROKEN = 263;

        Text text;
        int next;
        int token;
        int place;
        long name;
        long digits;
        int behind;
        int cell;
        int faultNumber;
        int faultPlace = NONE;

        void begin(Text from) {
            text = from;
            next = 0;
            token = END;
            faultNumber = 0;
            faultPlace = NONE;
            advance();
        }

        void refuse(int number) {
            if (faultNumber == 0) {
                faultNumber = number;
                faultPlace = place;
            }
            token = BROKEN;
        }

        void advance() {
            if (token == BROKEN) {
                return;
            }
            while (next < text.size && text.at(next) == ' ') {
                next++;
            }
            place = next;
            int one = text.at(next);
            if (one == NONE) {
                token = END;
            } else if (isLetter(one)) {
                readName();
            } else if (isDigit(one)) {
                readDigits();
            } else if (one >= 'A' && one <= 'D') {
                readRef(one - 'A');
            } else {
                readSign(one);
            }
        }

        static boolean isLetter(int one) {
            return one >= 'a' && one <= 'z';
        }

        static boolean isDigit(int one) {
            return one >= '0' && one <= '9';
        }

        private void readName() {
            name = 0;
            while (next < text.size && isLetter(text.at(next))) {
                name = name << 8 | text.at(next);
                next++;
            }
            token = NAME;
            if (next - place > 8) {
                refuse(1);
            }
        }

        private void readDigits() {
            digits = 0;
            behind = 0;
            int ahead = readRun();
            token = WHOLE;
            if (text.at(next) == '.' && isDigit(text.at(next + 1))) {
                next++;
                behind = readRun();
                token = DECIMAL;
            }
            if (ahead + behind > (token == WHOLE ? 18 : 15)) {
                refuse(1);
            }
        }

        private int readRun() {
            int start = next;
            while (next < text.size && text.bytes[next] >= '0' && text.bytes[next] <= '9') {
                digits = digits * 10 + (text.bytes[next] - '0');
                next++;
            }
            return next - start;
        }

        private void readRef(int sheet) {
            int column = text.at(next + 1) - 'a';
            int row = text.at(next + 2) - '0';
            if (column < 0 || column > 7 || row < 0 || row > 7) {
                refuse(1);
                return;
            }
            cell = 64 * sheet + 8 * row + column;
            next += 3;
            token = REF;
        }

        private void readSign(int one) {
            int follower = text.at(next + 1);
            if (one == '<' && (follower == '=' || follower == '>')) {
                token = follower == '=' ? LESS_EQUAL : UNLIKE;
                next += 2;
                return;
            }
            switch (one) {
                case '+': case '-': case '*': case '/': case '%': case '(': case ')':
                case ',': case ':': case '<': case '=':
                    token = one;
                    next++;
                    break;
                default:
                    refuse(1);
            }
        }
    }

    /** An E as a row of orders: each with what it works on, jumps told from the order behind them. */
    private static final class Code {
        static final int STEP = 0;
        static final int WHOLE = 1;
        static final int DECIMAL = 2;
        static final int REF = 3;
        static final int CONSTANT = 4;
        static final int ARGUMENT = 5;
        static final int NEGATE = 6;
        static final int ADD = 7;
        static final int SUBTRACT = 8;
        static final int MULTIPLY = 9;
        static final int DIVIDE = 10;
        static final int REMAINDER = 11;
        static final int LESS = 12;
        static final int LESS_EQUAL = 13;
        static final int EQUAL = 14;
        static final int UNLIKE = 15;
        static final int JUMP_ZERO = 16;
        static final int JUMP = 17;
        static final int TRY = 18;
        static final int END_TRY = 19;
        static final int SUM = 20;
        static final int LEAST = 21;
        static final int MOST = 22;
        static final int COUNT = 23;
        static final int AT = 24;
        static final int LINE = 25;
        static final int AREA = 26;
        static final int ROOT = 27;
        static final int CUT = 28;
        static final int REAL = 29;
        static final int CALL = 30;

        final byte[] orders;
        final long[] operands;
        final Text printed;
        final int[] needList;
        final long[] needBits = new long[SHEETS];
        int size;
        int needCount;
        int parts;
        int calls;
        long name;
        int arity;
        boolean told;

        Code(int room, int printRoom, int needRoom) {
            orders = new byte[Math.max(room, 0)];
            operands = new long[Math.max(room, 0)];
            printed = new Text(printRoom);
            needList = new int[Math.max(needRoom, 0)];
        }

        void restart() {
            size = 0;
            needCount = 0;
            parts = 0;
            calls = 0;
            printed.size = 0;
            for (int i = 0; i < SHEETS; i++) {
                needBits[i] = 0;
            }
        }

        /** The place at which the order stands. */
        int add(int which, long operand) {
            if (size < orders.length) {
                orders[size] = (byte) which;
                operands[size] = operand;
                size++;
            }
            return size - 1;
        }

        /** A sign between is met behind its left side, but takes its STEP ahead of it. */
        void insertStep(int place) {
            if (place < 0 || place > size || size >= orders.length) {
                return;
            }
            for (int i = size; i > place; i--) {
                orders[i] = orders[i - 1];
                operands[i] = operands[i - 1];
            }
            orders[place] = STEP;
            operands[place] = 0;
            size++;
        }

        /** Lets the jump at a place lead to what comes next. */
        void aim(int place) {
            if (place >= 0 && place < size) {
                operands[place] = size - place - 1;
            }
        }

        void addNeed(int cell) {
            if (noCell(cell) || hasNeed(cell) || needCount >= needList.length) {
                return;
            }
            needBits[cell >> 6] |= 1L << (cell & 63);
            needList[needCount] = cell;
            needCount++;
        }

        boolean hasNeed(int cell) {
            return !noCell(cell) && (needBits[cell >> 6] >>> (cell & 63) & 1) != 0;
        }

        /** How many cells an R has that is told by its first cell and 256 times its last one. */
        static int rangeSize(int range) {
            int first = range & 255;
            int last = range >> 8 & 255;
            return ((last >> 3) - (first >> 3) + 1) * ((last & 7) - (first & 7) + 1);
        }

        /** The k-th cell of an R, by rows. */
        static int rangeCell(int range, int k) {
            int first = range & 255;
            int width = (range >> 8 & 7) - (first & 7) + 1;
            return width < 1 ? first : first + k / width * 8 + k % width;
        }

        /** A copy that has just the room it needs: the draft is used again. */
        Code kept() {
            Code copy = new Code(size, printed.size, needCount);
            System.arraycopy(orders, 0, copy.orders, 0, size);
            System.arraycopy(operands, 0, copy.operands, 0, size);
            System.arraycopy(needList, 0, copy.needList, 0, needCount);
            System.arraycopy(needBits, 0, copy.needBits, 0, SHEETS);
            copy.printed.become(printed);
            copy.size = size;
            copy.needCount = needCount;
            copy.parts = parts;
            copy.calls = calls;
            return copy;
        }
    }

    /** Reads THE TEXT into a draft, and finds the FAULT that comes first. */
    private static final class Parser {
        /** The twelve WORDS as the lexer packs names: one letter a byte. */
        private static final long[] WORDS = {
            0x6966L, 0x747279L, // if try
            0x73756dL, 0x6c65617374L, 0x6d6f7374L, 0x636f756e74L, // sum least most count
            0x6174L, 0x6c696e65L, 0x61726561L, 0x726f6f74L, // at line area root
            0x637574L, 0x7265616cL, // cut real
        };
        private static final int IF = 0;
        private static final int TRY = 1;
        private static final int SUM = 2;
        private static final int AT = 6;
        private static final int LINE = 7;
        private static final int AREA = 8;
        private static final int ROOT = 9;
        private static final int CUT = 10;

        private static final int FORMULA = 0;
        private static final int CONSTANT = 1;
        private static final int FUNCTION = 2;

        private static final int RELATION = 0;
        private static final int SUMS = 1;
        private static final int PRODUCTS = 2;
        private static final int ATOMS = 3;

        private static final int PARTS = 40;
        private static final int OPEN = 10;
        /** No PART gives more than three orders. */
        private static final int ORDERS = 4 * PARTS;

        final Lexer lexer = new Lexer();
        final Code draft = new Code(ORDERS, OUT_ROOM, CELLS);
        private final Code[] functions;
        private final long[] arguments = new long[ARGUMENTS];
        int arity;
        private int sort;
        private Sheet sheet;
        private int visible;
        long ownName;
        int ownNumber;
        private int open;
        private int laterNumber;
        private int laterPlace;

        Parser(Code[] functions) {
            this.functions = functions;
        }

        int readFormula(Text text, Sheet of) {
            begin(text, FORMULA);
            sheet = of;
            visible = of.size;
            level(RELATION);
            return end();
        }

        int readConstant(Text text, Sheet of) {
            begin(text, CONSTANT);
            sheet = of;
            ownName = plainName();
            expect('=');
            int known = of.find(ownName, of.size);
            ownNumber = known == NONE ? of.size : known;
            visible = ownNumber;
            level(RELATION);
            return end();
        }

        int readFunction(Text text) {
            begin(text, FUNCTION);
            int place = lexer.place;
            ownName = plainName();
            expect('(');
            readArgument();
            while (arity < ARGUMENTS && lexer.token == ',') {
                lexer.advance();
                readArgument();
            }
            expect(')');
            expect('=');
            findOwnNumber(place);
            level(RELATION);
            return end();
        }

        private void begin(Text text, int what) {
            sort = what;
            arity = 0;
            ownName = 0;
            ownNumber = NONE;
            open = 0;
            laterNumber = 0;
            laterPlace = NONE;
            draft.restart();
            lexer.begin(text);
        }

        /** FAULTS 4 and 5 count only where there is none of the others. */
        private int end() {
            if (lexer.token != Lexer.END) {
                lexer.refuse(2);
            }
            if (lexer.faultNumber == 0) {
                lexer.faultNumber = laterNumber;
                lexer.faultPlace = laterPlace;
            }
            return lexer.faultNumber;
        }

        private void later(int number, int place) {
            if (laterPlace == NONE || place < laterPlace) {
                laterNumber = number;
                laterPlace = place;
            }
        }

        private void readArgument() {
            int place = lexer.place;
            long name = plainName();
            if (findArgument(name) != NONE) {
                later(5, place);
            }
            if (arity < ARGUMENTS) {
                arguments[arity] = name;
                arity++;
            }
        }

        private int findArgument(long name) {
            for (int i = 0; i < arity && i < ARGUMENTS; i++) {
                if (arguments[i] == name) {
                    return i;
                }
            }
            return NONE;
        }

        private void findOwnNumber(int place) {
            int known = 0;
            while (known < FUNCTIONS && functions[known] != null && functions[known].name != ownName) {
                known++;
            }
            ownNumber = known;
            if (known < FUNCTIONS && functions[known] != null && functions[known].arity != arity) {
                later(5, place);
            }
        }

        /** A NAME that is no WORD; 0, which no NAME is, behind a FAULT. */
        private long plainName() {
            if (lexer.token != Lexer.NAME || wordOf(lexer.name) != NONE) {
                lexer.refuse(2);
                return 0;
            }
            long name = lexer.name;
            lexer.advance();
            return name;
        }

        private static int wordOf(long name) {
            for (int i = 0; i < WORDS.length; i++) {
                if (WORDS[i] == name) {
                    return i;
                }
            }
            return NONE;
        }

        private void expect(int token) {
            if (lexer.token == token) {
                lexer.advance();
            } else {
                lexer.refuse(2);
            }
        }

        /** Expects a sign of one byte that is PRINTED too. */
        private void pass(int token) {
            if (lexer.token == token) {
                draft.printed.add(token);
                lexer.advance();
            } else {
                lexer.refuse(2);
            }
        }

        private void copyToken(int from) {
            for (int i = from; i < lexer.next; i++) {
                draft.printed.add(lexer.text.at(i));
            }
        }

        private void copyDigits() {
            int from = lexer.place;
            while (from < lexer.next && lexer.text.at(from) == '0' && Lexer.isDigit(lexer.text.at(from + 1))) {
                from++;
            }
            copyToken(from);
        }

        private void tellPart() {
            if (draft.parts >= PARTS) {
                lexer.refuse(3);
            } else {
                draft.parts++;
            }
        }

        private void tellStep() {
            tellPart();
            draft.add(Code.STEP, 0);
        }

        private void tellOpen() {
            if (open >= OPEN) {
                lexer.refuse(3);
            } else {
                open++;
            }
        }

        private static int rankOf(int token) {
            switch (token) {
                case '<': case Lexer.LESS_EQUAL: case '=': case Lexer.UNLIKE:
                    return RELATION;
                case '+': case '-':
                    return SUMS;
                case '*': case '/': case '%':
                    return PRODUCTS;
                default:
                    return NONE;
            }
        }

        private static int orderOf(int token) {
            switch (token) {
                case '+':
                    return Code.ADD;
                case '-':
                    return Code.SUBTRACT;
                case '*':
                    return Code.MULTIPLY;
                case '/':
                    return Code.DIVIDE;
                case '%':
                    return Code.REMAINDER;
                case '<':
                    return Code.LESS;
                case Lexer.LESS_EQUAL:
                    return Code.LESS_EQUAL;
                case '=':
                    return Code.EQUAL;
                default:
                    return Code.UNLIKE;
            }
        }

        /** An E, SUM, PRODUCT or ATOM, by its rank. The OPEN keep the recursion low. */
        private void level(int rank) {
            if (rank >= ATOMS) {
                atom();
                return;
            }
            int start = draft.size;
            int printStart = draft.printed.size;
            level(rank + 1);
            int most = rank == RELATION ? 1 : PARTS;
            for (int turn = 0; turn < most && rankOf(lexer.token) == rank; turn++) {
                int order = orderOf(lexer.token);
                tellPart();
                draft.insertStep(start);
                draft.printed.insert(printStart, '(');
                copyToken(lexer.place);
                lexer.advance();
                level(rank + 1);
                draft.printed.add(')');
                draft.add(order, 0);
            }
        }

        private void atom() {
            switch (lexer.token) {
                case '-':
                    minus();
                    break;
                case '(':
                    group();
                    break;
                case Lexer.WHOLE:
                    tellStep();
                    draft.add(Code.WHOLE, lexer.digits);
                    copyDigits();
                    lexer.advance();
                    break;
                case Lexer.DECIMAL:
                    tellStep();
                    draft.add(Code.DECIMAL, lexer.digits << 4 | lexer.behind);
                    copyDigits();
                    lexer.advance();
                    break;
                case Lexer.REF:
                    ref();
                    break;
                case Lexer.NAME:
                    nameOrCall();
                    break;
                default:
                    lexer.refuse(2);
            }
        }

        private void minus() {
            tellStep();
            tellOpen();
            draft.printed.add('(');
            draft.printed.add('-');
            lexer.advance();
            atom();
            draft.printed.add(')');
            draft.add(Code.NEGATE, 0);
            open--;
        }

        private void group() {
            tellOpen();
            lexer.advance();
            level(RELATION);
            expect(')');
            open--;
        }

        private void ref() {
            tellStep();
            if (sort == FORMULA) {
                draft.addNeed(lexer.cell);
            } else {
                later(4, lexer.place);
            }
            draft.add(Code.REF, lexer.cell);
            copyToken(lexer.place);
            lexer.advance();
        }

        private void nameOrCall() {
            long name = lexer.name;
            int place = lexer.place;
            int word = wordOf(name);
            tellStep();
            copyToken(place);
            lexer.advance();
            if (word == NONE && lexer.token != '(') {
                resolveName(name, place);
                return;
            }
            if (lexer.token == '(') {
                tellOpen();
            }
            pass('(');
            if (word == NONE) {
                callFunction(name, place);
            } else {
                callWord(word);
            }
            pass(')');
            open--;
        }

        private void resolveName(long name, int place) {
            int known = sort == FUNCTION ? findArgument(name) : sheet.find(name, visible);
            if (known == NONE) {
                later(4, place);
            }
            draft.add(sort == FUNCTION ? Code.ARGUMENT : Code.CONSTANT, known);
        }

        private void callFunction(long name, int place) {
            int given = 1;
            level(RELATION);
            while (given < ARGUMENTS && lexer.token == ',') {
                pass(',');
                level(RELATION);
                given++;
            }
            draft.add(Code.CALL, resolveFunction(name, given, place) * 4 + given);
        }

        /** The number of a FUNCTION; 0 where there is none, which is a FAULT. */
        private int resolveFunction(long name, int given, int place) {
            int known = NONE;
            if (sort == FUNCTION && name == ownName) {
                known = given == arity ? ownNumber : NONE;
            } else {
                for (int i = 0; i < FUNCTIONS; i++) {
                    Code one = functions[i];
                    if (one != null && one.name == name && one.arity == given) {
                        known = i;
                    }
                }
            }
            if (known == NONE) {
                later(4, place);
                return 0;
            }
            draft.calls |= 1 << known;
            return known;
        }

        private void callWord(int word) {
            switch (word) {
                case IF:
                    choice();
                    break;
                case TRY:
                    attempt();
                    break;
                case AT:
                    long from = range();
                    pass(',');
                    level(RELATION);
                    draft.add(Code.AT, from);
                    break;
                case LINE: case AREA:
                    table(word);
                    break;
                case ROOT:
                    root();
                    break;
                default:
                    if (word >= CUT) {
                        level(RELATION);
                        draft.add(word - CUT + Code.CUT, 0);
                    } else {
                        draft.add(word - SUM + Code.SUM, range());
                    }
            }
        }

        private void choice() {
            level(RELATION);
            pass(',');
            int toElse = draft.add(Code.JUMP_ZERO, 0);
            level(RELATION);
            pass(',');
            int toEnd = draft.add(Code.JUMP, 0);
            draft.aim(toElse);
            level(RELATION);
            draft.aim(toEnd);
        }

        private void attempt() {
            int toOther = draft.add(Code.TRY, 0);
            level(RELATION);
            pass(',');
            int toEnd = draft.add(Code.END_TRY, 0);
            draft.aim(toOther);
            level(RELATION);
            draft.aim(toEnd);
        }

        private void root() {
            int place = lexer.place;
            copyToken(place);
            long name = plainName();
            pass(',');
            level(RELATION);
            pass(',');
            level(RELATION);
            draft.add(Code.ROOT, resolveFunction(name, 1, place));
        }

        private void table(int word) {
            if (word == LINE) {
                level(RELATION);
                pass(',');
            }
            long first = range();
            pass(',');
            long second = range();
            draft.add(word == LINE ? Code.LINE : Code.AREA, first | second << 16);
        }

        /** An R: its first cell, and 256 times its last one. */
        private int range() {
            int place = lexer.place;
            if (lexer.token == Lexer.REF) {
                tellPart();
            }
            int first = rangeEnd();
            pass(':');
            int last = rangeEnd();
            int both = first | last << 8;
            if (sort == FORMULA && isSound(first, last)) {
                for (int k = 0; k < Code.rangeSize(both); k++) {
                    draft.addNeed(Code.rangeCell(both, k));
                }
            } else {
                later(4, place);
            }
            return both;
        }

        private int rangeEnd() {
            int cell = lexer.cell;
            if (lexer.token == Lexer.REF) {
                copyToken(lexer.place);
                lexer.advance();
            } else {
                lexer.refuse(2);
            }
            return cell;
        }

        private static boolean isSound(int first, int last) {
            return first >> 6 == last >> 6 && (first >> 3 & 7) <= (last >> 3 & 7) && (first & 7) <= (last & 7);
        }
    }

    /** What a cell, or a CONSTANT, holds; a CONSTANT has neither READS nor a first cell. */
    private static final class Cell {
        int state;
        long bits;
        double real;
        Code code;
        int kind;
        int first;
        int cause;
        boolean told;
        int[] reads;
        int readCount;

        void makeReads() {
            readCount = 0;
            if (reads == null) {
                reads = new int[READS];
            }
        }

        void setBare(int which) {
            state = which;
            bits = 0;
        }

        void setLong(long v) {
            state = IS_LONG;
            bits = v;
        }

        void setDouble(double v) {
            state = IS_DOUBLE;
            real = v;
            bits = Real.bitsOf(v);
        }

        void setFailed(int which, int why, int began, int deeper) {
            setBare(which);
            kind = why;
            first = began;
            cause = deeper;
        }

        boolean isBroken() {
            return state == FAILED || state == ON_CYCLE || state == HANGS;
        }

        long shownValue() {
            return state == IS_LONG || state == IS_DOUBLE ? bits : 0;
        }

        void addRead(int cell) {
            if (reads != null && readCount < READS) {
                reads[readCount] = cell;
                readCount++;
            }
        }
    }

    /** The CONSTANTS of a SHEET. */
    private static final class Sheet {
        final Cell[] constants = new Cell[CONSTANTS];
        int size;
        boolean told;
        /** The kind with which a CONSTANT FAILED; 0 while the SHEET is not SPOILED. */
        int spoil;
        int times;

        Sheet() {
            for (int i = 0; i < CONSTANTS; i++) {
                constants[i] = new Cell();
            }
        }

        /** The number of a CONSTANT among the first ones. */
        int find(long name, int among) {
            for (int i = 0; i < among && i < size; i++) {
                Code code = constants[i].code;
                if (code != null && code.name == name) {
                    return i;
                }
            }
            return NONE;
        }

        void tell(int number, Code code) {
            if (number < 0 || number >= CONSTANTS) {
                return;
            }
            constants[number].code = code;
            constants[number].setBare(IS_EMPTY);
            size = Math.max(size, number + 1);
            told = true;
        }

        boolean isChanged(int staleFunctions) {
            boolean changed = told;
            for (int i = 0; i < size; i++) {
                Code code = constants[i].code;
                if (code != null && (code.calls & staleFunctions) != 0) {
                    changed = true;
                }
            }
            return changed;
        }

        void beginAnew() {
            told = false;
            spoil = 0;
            times++;
            for (int i = 0; i < size; i++) {
                constants[i].setBare(IS_EMPTY);
            }
        }
    }

    /** A stack of LONGS and DOUBLES. */
    private static final class Numbers {
        /** Each number that lies here took a STEP of its own, or the CALL did that it is given to. */
        private static final int ROOM = 1024;

        private final boolean[] isReal = new boolean[ROOM];
        private final long[] wholes = new long[ROOM];
        private final double[] reals = new double[ROOM];
        int top;

        void pushLong(long v) {
            if (top < ROOM) {
                isReal[top] = false;
                wholes[top] = v;
                top++;
            }
        }

        void pushDouble(double v) {
            if (top < ROOM) {
                isReal[top] = true;
                reals[top] = v;
                top++;
            }
        }

        void pushCopy(int from) {
            if (from < 0 || from >= top) {
                return;
            }
            if (isReal[from]) {
                pushDouble(reals[from]);
            } else {
                pushLong(wholes[from]);
            }
        }

        /** Drops all from a place on but the topmost, which comes to lie there. */
        void dropUnder(int place) {
            if (place < 0 || place >= top) {
                return;
            }
            int last = top - 1;
            isReal[place] = isReal[last];
            wholes[place] = wholes[last];
            reals[place] = reals[last];
            top = place + 1;
        }

        double realAt(int i) {
            return isReal[i] ? reals[i] : (double) wholes[i];
        }

        double popDouble() {
            if (top < 1) {
                return 0.0;
            }
            top--;
            return realAt(top);
        }

        /** Whether the topmost is a LONG; it stays. */
        boolean topIsLong() {
            return top > 0 && !isReal[top - 1];
        }

        /** The topmost as a LONG, a DOUBLE cut towards 0. */
        long popLong() {
            if (top < 1) {
                return 0;
            }
            top--;
            return isReal[top] ? (long) reals[top] : wholes[top];
        }

        boolean popZero() {
            if (top < 1) {
                return true;
            }
            top--;
            return isReal[top] ? reals[top] == 0 : wholes[top] == 0;
        }

        void negate() {
            if (topIsLong()) {
                pushLong(-popLong());
            } else {
                pushDouble(-popDouble());
            }
        }

        /** Of the two topmost the one under it, or the topmost if it is less (or, for the most, greater). */
        void keepBetter(boolean most) {
            if (top < 2) {
                return;
            }
            boolean better = most ? isLess(top - 2, top - 1) : isLess(top - 1, top - 2);
            if (better) {
                dropUnder(top - 2);
            } else {
                top--;
            }
        }

        private boolean isLess(int i, int j) {
            return isReal[i] || isReal[j] ? realAt(i) < realAt(j) : wholes[i] < wholes[j];
        }

        /** Puts what a sign gives in place of the two topmost; the kind with which it FAILED, or 0. */
        int combine(int order) {
            if (top < 2) {
                return 0;
            }
            if (order == Code.ADD) {
                return plus();
            }
            int a = top - 2;
            int b = top - 1;
            top = a;
            if (isReal[a] || isReal[b]) {
                return combineReals(order, realAt(a), realAt(b));
            }
            return combineWholes(order, wholes[a], wholes[b]);
        }

        /** As combine(), for + alone: a sum over cells has no use for the others. */
        int plus() {
            if (top < 2) {
                return 0;
            }
            int a = top - 2;
            int b = top - 1;
            top = a;
            if (isReal[a] || isReal[b]) {
                return pushFinite(realAt(a) + realAt(b));
            }
            pushLong(wholes[a] + wholes[b]);
            return 0;
        }

        private int combineWholes(int order, long a, long b) {
            if ((order == Code.DIVIDE || order == Code.REMAINDER) && b == 0) {
                return DIVISION;
            }
            switch (order) {
                case Code.SUBTRACT:
                    pushLong(a - b);
                    break;
                case Code.MULTIPLY:
                    pushLong(a * b);
                    break;
                case Code.DIVIDE:
                    pushLong(a / b);
                    break;
                case Code.REMAINDER:
                    pushLong(a % b);
                    break;
                case Code.LESS:
                    pushLong(a < b ? 1 : 0);
                    break;
                case Code.LESS_EQUAL:
                    pushLong(a <= b ? 1 : 0);
                    break;
                case Code.EQUAL:
                    pushLong(a == b ? 1 : 0);
                    break;
                default:
                    pushLong(a != b ? 1 : 0);
            }
            return 0;
        }

        private int combineReals(int order, double a, double b) {
            switch (order) {
                case Code.SUBTRACT:
                    return pushFinite(a - b);
                case Code.MULTIPLY:
                    return pushFinite(a * b);
                case Code.DIVIDE:
                    return b == 0 ? DIVISION : pushFinite(a / b);
                case Code.REMAINDER:
                    return b == 0 ? DIVISION : pushFinite(Real.remainder(a, b));
                case Code.LESS:
                    pushLong(a < b ? 1 : 0);
                    return 0;
                case Code.LESS_EQUAL:
                    pushLong(a <= b ? 1 : 0);
                    return 0;
                case Code.EQUAL:
                    pushLong(a == b ? 1 : 0);
                    return 0;
                default:
                    pushLong(a != b ? 1 : 0);
                    return 0;
            }
        }

        private int pushFinite(double v) {
            if (Real.isInfinite(v)) {
                return BEYOND;
            }
            pushDouble(v);
            return 0;
        }
    }

    /** An E that is under way; if a root asked for it, also how far that root has come. */
    private static final class Frame {
        Code code;
        int at;
        int base;
        int rootTurn;
        double low;
        double high;
        double middle;
        boolean lowIsBelow;
    }

    /** Works an E out. */
    private static final class Machine {
        private static final int STEPS = 1000;
        private static final int CALLS = 20;
        /** Ten OPEN in each E that is under way, and one E more than there are CALLS. */
        private static final int TRIES = 10 * (CALLS + 1);
        private static final int RANGE = 64;
        /** Two turns for the ends, and sixty halvings. */
        private static final int ROOT_TURNS = 62;
        private static final int TURNS = 1000000;

        final Cell[] cells = new Cell[CELLS];
        final Code[] functions = new Code[FUNCTIONS];
        private final Numbers numbers = new Numbers();
        /** One more than can be under way: a root fills its next one before it asks for a STEP. */
        private final Frame[] frames = new Frame[CALLS + 2];
        private final int[] tryAt = new int[TRIES];
        private final int[] tryTop = new int[TRIES];
        private final int[] tryDepth = new int[TRIES];
        private final double[] row = new double[RANGE];
        private final double[] column = new double[RANGE];
        private int tries;
        private int depth;
        private int steps;
        private boolean running;
        private int kind;
        /** The broken cell that was read, if that is why it FAILED. */
        private Cell source;
        private Cell owner;
        private Sheet sheet;

        Machine() {
            for (int i = 0; i < CELLS; i++) {
                cells[i] = new Cell();
            }
            for (int i = 0; i < frames.length; i++) {
                frames[i] = new Frame();
            }
        }

        /** Works the E of a cell out, or that of a CONSTANT, whose number is NONE. */
        void workOut(Cell one, int number, Sheet of) {
            begin(one, of);
            for (int turn = 0; turn < TURNS && running; turn++) {
                Frame frame = frames[depth];
                if (frame.code == null || frame.at < 0 || frame.at >= frame.code.size) {
                    leave(frame);
                } else {
                    int at = frame.at;
                    frame.at++;
                    obey(frame, frame.code.orders[at], frame.code.operands[at]);
                }
                if (kind != 0) {
                    recover();
                }
            }
            settle(number);
        }

        private void begin(Cell one, Sheet of) {
            owner = one;
            owner.readCount = 0;
            sheet = of;
            numbers.top = 0;
            tries = 0;
            depth = 0;
            steps = STEPS;
            kind = 0;
            source = null;
            running = true;
            frames[0].code = one.code;
            frames[0].at = 0;
            frames[0].base = 0;
        }

        private void settle(int number) {
            if (source != null) {
                owner.setFailed(HANGS, source.kind, source.first, source.cause);
            } else if (kind != 0) {
                owner.setFailed(FAILED, kind, number, 0);
            } else if (numbers.topIsLong()) {
                owner.setLong(numbers.popLong());
            } else {
                owner.setDouble(numbers.popDouble());
            }
        }

        /** Goes on at the innermost try, but no try takes a SPENT of this E. */
        private void recover() {
            if (tries < 1 || kind == SPENT && source == null) {
                running = false;
                return;
            }
            tries--;
            depth = tryDepth[tries];
            numbers.top = tryTop[tries];
            frames[depth].at = tryAt[tries];
            kind = 0;
            source = null;
        }

        private boolean tookStep() {
            if (steps < 1) {
                kind = SPENT;
                return false;
            }
            steps--;
            return true;
        }

        private void obey(Frame frame, int order, long operand) {
            switch (order) {
                case Code.STEP:
                    tookStep();
                    break;
                case Code.WHOLE: case Code.DECIMAL: case Code.REF: case Code.CONSTANT: case Code.ARGUMENT:
                    pushAtom(frame, order, operand);
                    break;
                case Code.NEGATE:
                    numbers.negate();
                    break;
                case Code.CUT:
                    numbers.pushLong(numbers.popLong());
                    break;
                case Code.REAL:
                    numbers.pushDouble(numbers.popDouble());
                    break;
                case Code.CALL:
                    call((int) operand >> 2, (int) operand & 3);
                    break;
                case Code.ROOT:
                    beginRoot((int) operand);
                    break;
                case Code.JUMP_ZERO: case Code.JUMP: case Code.TRY: case Code.END_TRY:
                    jump(frame, order, (int) operand);
                    break;
                case Code.SUM: case Code.LEAST: case Code.MOST: case Code.COUNT:
                    fold(order, (int) operand);
                    break;
                case Code.AT:
                    pick((int) operand);
                    break;
                case Code.LINE:
                    line((int) operand & 65535, (int) (operand >> 16));
                    break;
                case Code.AREA:
                    area((int) operand & 65535, (int) (operand >> 16));
                    break;
                default:
                    kind = numbers.combine(order);
            }
        }

        private void pushAtom(Frame frame, int order, long operand) {
            switch (order) {
                case Code.WHOLE:
                    numbers.pushLong(operand);
                    break;
                case Code.DECIMAL:
                    numbers.pushDouble(Real.shifted(operand >> 4, (int) (operand & 15)));
                    break;
                case Code.REF:
                    readCell((int) operand, false);
                    break;
                case Code.CONSTANT:
                    pushConstant((int) operand);
                    break;
                default:
                    numbers.pushCopy(frame.base + (int) operand);
            }
        }

        private void jump(Frame frame, int order, int by) {
            if (order == Code.TRY) {
                if (tries < TRIES) {
                    tryAt[tries] = frame.at + by;
                    tryTop[tries] = numbers.top;
                    tryDepth[tries] = depth;
                    tries++;
                }
                return;
            }
            if (order == Code.END_TRY && tries > 0) {
                tries--;
            }
            if (order != Code.JUMP_ZERO || numbers.popZero()) {
                frame.at += by;
            }
        }

        /** Puts a cell's VALUE on the stack, if it has one. */
        private boolean readCell(int cell, boolean passEmpty) {
            if (noCell(cell)) {
                return false;
            }
            owner.addRead(cell);
            Cell one = cells[cell];
            if (one.state == IS_LONG) {
                numbers.pushLong(one.bits);
                return true;
            }
            if (one.state == IS_DOUBLE) {
                numbers.pushDouble(one.real);
                return true;
            }
            if (one.isBroken()) {
                source = one;
                kind = one.kind;
            } else if (!passEmpty) {
                kind = VACANT;
            }
            return false;
        }

        private void pushConstant(int number) {
            if (number < 0 || number >= sheet.size) {
                return;
            }
            Cell one = sheet.constants[number];
            if (one.state == IS_DOUBLE) {
                numbers.pushDouble(one.real);
            } else {
                numbers.pushLong(one.bits);
            }
        }

        private void call(int number, int given) {
            if (depth >= CALLS) {
                kind = DEEP;
                return;
            }
            Frame next = frames[depth + 1];
            next.code = number >= 0 && number < FUNCTIONS ? functions[number] : null;
            next.rootTurn = 0;
            enter(next, given);
        }

        private void enter(Frame next, int given) {
            next.at = 0;
            next.base = numbers.top - given;
            depth++;
        }

        private void leave(Frame frame) {
            if (depth < 1) {
                running = false;
                return;
            }
            numbers.dropUnder(frame.base);
            depth--;
            if (frame.rootTurn > 0) {
                goOnWithRoot(frame);
            }
        }

        private void beginRoot(int number) {
            Frame next = frames[depth + 1];
            next.code = number >= 0 && number < FUNCTIONS ? functions[number] : null;
            next.high = numbers.popDouble();
            next.low = numbers.popDouble();
            next.rootTurn = 0;
            askForRoot(next, next.low);
        }

        private void askForRoot(Frame next, double x) {
            if (!tookStep()) {
                return;
            }
            if (depth >= CALLS) {
                kind = DEEP;
                return;
            }
            next.rootTurn++;
            numbers.pushDouble(x);
            enter(next, 1);
        }

        private void goOnWithRoot(Frame frame) {
            boolean isBelow = numbers.popDouble() < 0;
            if (frame.rootTurn == 1) {
                frame.lowIsBelow = isBelow;
                askForRoot(frame, frame.high);
                return;
            }
            boolean alike = isBelow == frame.lowIsBelow;
            if (frame.rootTurn == 2) {
                if (alike) {
                    kind = NO_ROOT;
                    return;
                }
            } else if (alike) {
                frame.low = frame.middle;
            } else {
                frame.high = frame.middle;
            }
            halve(frame);
        }

        private void halve(Frame frame) {
            double width = frame.high - frame.low;
            if (Real.isInfinite(width)) {
                kind = BEYOND;
                return;
            }
            frame.middle = frame.low + width * 0.5;
            if (Real.isInfinite(frame.middle)) {
                kind = BEYOND;
            } else if (frame.rootTurn >= ROOT_TURNS) {
                numbers.pushDouble(frame.middle);
            } else {
                askForRoot(frame, frame.middle);
            }
        }

        private void fold(int order, int range) {
            int found = 0;
            int size = Code.rangeSize(range);
            for (int k = 0; k < size && kind == 0; k++) {
                if (!tookStep() || !readCell(Code.rangeCell(range, k), true)) {
                    continue;
                }
                found++;
                if (order == Code.COUNT) {
                    numbers.popLong();
                } else if (found > 1 && order == Code.SUM) {
                    kind = numbers.plus();
                } else if (found > 1) {
                    numbers.keepBetter(order == Code.MOST);
                }
            }
            if (kind != 0) {
                return;
            }
            if (order == Code.COUNT || order == Code.SUM && found == 0) {
                numbers.pushLong(found);
            } else if (found == 0) {
                kind = VACANT;
            }
        }

        private void pick(int range) {
            if (!numbers.topIsLong()) {
                kind = SORT;
                return;
            }
            long index = numbers.popLong();
            if (index < 0 || index >= Code.rangeSize(range)) {
                kind = INDEX;
            } else if (tookStep()) {
                readCell(Code.rangeCell(range, (int) index), false);
            }
        }

        /** Reads all of an R as DOUBLES: how many. */
        private int fill(double[] into, int range) {
            int size = Code.rangeSize(range);
            for (int k = 0; k < size && k < into.length && kind == 0; k++) {
                if (tookStep() && readCell(Code.rangeCell(range, k), false)) {
                    into[k] = numbers.popDouble();
                }
            }
            return size;
        }

        /** Whether both R were read and are of one size; otherwise it FAILED. */
        private boolean isTable(int size, int other) {
            if (kind == 0 && (size != other || size < 2 || size > RANGE)) {
                kind = TABLE;
            }
            return kind == 0;
        }

        private void line(int first, int second) {
            double x = numbers.popDouble();
            int size = fill(row, first);
            if (!isTable(size, fill(column, second))) {
                return;
            }
            for (int k = 1; k < size; k++) {
                if (row[k] <= row[k - 1]) {
                    kind = TABLE;
                    return;
                }
            }
            if (x <= row[0]) {
                numbers.pushDouble(column[0]);
            } else if (x >= row[size - 1]) {
                numbers.pushDouble(column[size - 1]);
            } else {
                between(x, size);
            }
        }

        private void between(double x, int size) {
            int k = 0;
            while (k + 2 < size && row[k + 1] <= x) {
                k++;
            }
            double width = row[k + 1] - row[k];
            double rise = column[k + 1] - column[k];
            // Looked at ahead of the product: an infinite rise times 0 is no number at all.
            if (Real.isInfinite(width) || Real.isInfinite(rise) || width <= 0) {
                kind = BEYOND;
                return;
            }
            double t = (x - row[k]) / width;
            kind = numbers.pushFinite(column[k] + rise * t);
        }

        private void area(int first, int second) {
            int size = fill(row, first);
            if (!isTable(size, fill(column, second))) {
                return;
            }
            double sum = 0.0;
            for (int k = 1; k < size && kind == 0; k++) {
                double width = row[k] - row[k - 1];
                double height = column[k - 1] + column[k];
                if (Real.isInfinite(width) || Real.isInfinite(height)) {
                    kind = BEYOND;
                    return;
                }
                double product = width * height;
                sum = Real.isInfinite(product) ? product : sum + product / 2.0;
                if (Real.isInfinite(sum)) {
                    kind = BEYOND;
                }
            }
            if (kind == 0) {
                numbers.pushDouble(sum);
            }
        }
    }

    /** Which cells a recalculate() does, and in which order; it stands until the next one. */
    private static final class Plan {
        private final int[] members = new int[FORMULAS];
        private final long[] links = new long[FORMULAS];
        private final long[] reach = new long[FORMULAS];
        private final int[] ringOf = new int[FORMULAS];
        private final int[] ringCells = new int[FORMULAS];
        private final int[] ringStarts = new int[FORMULAS + 1];
        final int[] doneCells = new int[FORMULAS];
        private int size;
        private long changed;
        private long finished;
        int rings;
        int doneCount;
        /** The first cell of the CYCLE on which the latest next() is, or NONE. */
        int ringFirst;

        /** Finds what needs what, also by way of others, and the CYCLES. */
        void draw(Cell[] cells) {
            size = 0;
            for (int c = 0; c < CELLS; c++) {
                if (cells[c].code != null && size < FORMULAS) {
                    members[size] = c;
                    size++;
                }
            }
            for (int i = 0; i < size; i++) {
                links[i] = linksOf(cells[members[i]].code);
                reach[i] = links[i];
            }
            for (int k = 0; k < size; k++) {
                for (int i = 0; i < size; i++) {
                    if (hasBit(reach[i], k)) {
                        reach[i] |= reach[k];
                    }
                }
            }
            findRings();
        }

        private long linksOf(Code code) {
            long bits = 0;
            for (int j = 0; j < size && code != null; j++) {
                if (code.hasNeed(members[j])) {
                    bits |= 1L << j;
                }
            }
            return bits;
        }

        private static boolean hasBit(long bits, int i) {
            return (bits >>> i & 1) != 0;
        }

        private void findRings() {
            rings = 0;
            int filled = 0;
            for (int i = 0; i < size; i++) {
                ringOf[i] = NONE;
            }
            for (int i = 0; i < size; i++) {
                if (!hasBit(reach[i], i) || ringOf[i] != NONE) {
                    continue;
                }
                ringStarts[rings] = filled;
                for (int j = i; j < size && filled < FORMULAS; j++) {
                    if (hasBit(reach[i], j) && hasBit(reach[j], i)) {
                        ringOf[j] = rings;
                        ringCells[filled] = members[j];
                        filled++;
                    }
                }
                rings++;
            }
            ringStarts[rings] = filled;
        }

        int ringCell(int ring, int k) {
            if (ring < 0 || ring >= rings || k < 0 || k >= ringStarts[ring + 1] - ringStarts[ring]) {
                return NONE;
            }
            return ringCells[ringStarts[ring] + k];
        }

        /** Finds the CHANGED cells. */
        void mark(Cell[] cells, int staleFunctions, int staleSheets) {
            finished = 0;
            doneCount = 0;
            long roots = 0;
            for (int i = 0; i < size; i++) {
                int cell = members[i];
                if ((staleSheets >> (cell >> 6) & 1) != 0 || isStale(cells, cells[cell], staleFunctions)) {
                    roots |= 1L << i;
                }
            }
            changed = roots;
            for (int i = 0; i < size; i++) {
                if ((reach[i] & roots) != 0) {
                    changed |= 1L << i;
                }
            }
        }

        private static boolean isStale(Cell[] cells, Cell one, int staleFunctions) {
            Code code = one.code;
            if (code == null) {
                return false;
            }
            boolean stale = one.told || (code.calls & staleFunctions) != 0;
            for (int k = 0; k < code.needCount && !stale; k++) {
                stale = cells[code.needList[k]].told;
            }
            return stale;
        }

        /** The cell to be done next, or NONE. */
        int next() {
            long open = changed & ~finished;
            for (int i = 0; i < size; i++) {
                boolean isReady = ringOf[i] != NONE || (links[i] & open) == 0;
                if (hasBit(open, i) && isReady && doneCount < FORMULAS) {
                    finished |= 1L << i;
                    ringFirst = ringCell(ringOf[i], 0);
                    doneCells[doneCount] = members[i];
                    doneCount++;
                    return members[i];
                }
            }
            return NONE;
        }
    }

    /** What DOUBLES need beside + - * / and comparisons. */
    private static final class Real {
        static boolean isInfinite(double x) {
            return x > 1.7976931348623157E308 || x < -1.7976931348623157E308;
        }

        static boolean isNegative(double x) {
            // Only a quotient tells the two 0s from one another.
            return x < 0 || x == 0 && 1.0 / x < 0;
        }

        /** A LONG as a DOUBLE, divided by 10 to a number of digits, which a DOUBLE holds exactly up to 22. */
        static double shifted(long n, int digits) {
            double power = 1.0;
            for (int i = 0; i < digits; i++) {
                power *= 10.0;
            }
            return (double) n / power;
        }

        /** The greatest e with 2 to the e not above x; x is above 0. */
        static int exponentOf(double x) {
            double rest = x;
            int e = 0;
            for (int i = 0; i < 16 && rest >= 18446744073709551616.0; i++) {
                rest /= 18446744073709551616.0;
                e += 64;
            }
            for (int i = 0; i < 17 && rest * 18446744073709551616.0 < 1; i++) {
                rest *= 18446744073709551616.0;
                e -= 64;
            }
            for (int i = 0; i < 64 && rest >= 2; i++) {
                rest /= 2;
                e++;
            }
            for (int i = 0; i < 64 && rest < 1; i++) {
                rest *= 2;
                e--;
            }
            return e;
        }

        /** x times 2 to a power; exact if the outcome can be. */
        static double scaled(double x, int power) {
            double y = x;
            int left = power;
            for (; left >= 64; left -= 64) {
                y *= 18446744073709551616.0;
            }
            for (; left <= -64; left += 64) {
                y /= 18446744073709551616.0;
            }
            for (; left > 0; left--) {
                y *= 2;
            }
            for (; left < 0; left++) {
                y /= 2;
            }
            return y;
        }

        /** The bits that IEEE 754 gives a DOUBLE. */
        static long bitsOf(double x) {
            long top = isNegative(x) ? Long.MIN_VALUE : 0;
            double size = x < 0 ? -x : x;
            if (size == 0) {
                return top;
            }
            int e = exponentOf(size);
            if (e < -1022) {
                return top | (long) scaled(size, 1074);
            }
            // The fraction's leading one, which is not written, adds one to the exponent's field.
            return top | ((e + 1022L) << 52) + (long) scaled(size, 52 - e);
        }

        /** What is left of x by y, exactly, with the sign of x: worked with the LONGS of their digits. */
        static double remainder(double x, double y) {
            double a = x < 0 ? -x : x;
            double b = y < 0 ? -y : y;
            if (a < b || a == 0) {
                return x;
            }
            int e = exponentOf(b);
            long divisor = (long) scaled(b, 52 - e);
            if (divisor <= 0) {
                return x;
            }
            int left = exponentOf(a) - e;
            long rest = (long) scaled(a, 52 - e - left) % divisor;
            while (left > 0) {
                // A rest has 53 bits at most, so ten more fit into a LONG.
                int by = Math.min(left, 10);
                rest = (rest << by) % divisor;
                left -= by;
            }
            double size = scaled((double) rest, e - 52);
            return isNegative(x) ? -size : size;
        }
    }
}
