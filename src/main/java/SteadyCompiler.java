import java.util.Arrays;

/** Checks, compiles and runs small programs whose secrets must not show in what can be seen of a run. */
public final class SteadyCompiler {
    public static final int NONE = -1, BAD = -2, FULL = -3, CUT = -4, TRAP = -5, WRONG = -11, NUMBER = -12, DEEP = -13, LEAK = -14;

    private static final int VARIABLES = 10;
    private static final int TABLES = 4;
    private static final int TABLE_ROOM = 16;
    private static final int FIRST_TABLE_SIZE = 4;
    private static final int TEXT_ROOM = 400;
    private static final int MOST_TIMES = 20;
    private static final int DEEPEST = 12;
    private static final int TOLD_ROOM = 300;
    private static final int TRACE_ROOM = 5000;
    private static final int MOST_INSTRUCTIONS = 20000;
    private static final int MOST_TURNS = 5000;
    // "6 n 0" makes 13 words of 3 tokens and nothing makes more of as few, so 400 tokens make 1730 words at most.
    private static final int CODE_ROOM = 2048;
    // An E leaves at most two numbers waiting on each of its eleven levels, and 2 t E E one more.
    private static final int PILE_ROOM = 64;
    private static final int TABLE_SEEN = 4096;

    private static final int NO_FAULT = 0;
    private static final int GOING = 0;

    private static final int END = 0;
    private static final int LET = 1;
    private static final int LAY = 2;
    private static final int IF = 3;
    private static final int ELSE = 4;
    private static final int WHILE = 5;
    private static final int TIMES = 6;
    private static final int TELL = 7;

    private static final int LITERAL = 20;
    private static final int NAMED = 21;
    private static final int SUM = 22;
    private static final int DIFFERENCE = 23;
    private static final int PRODUCT = 24;
    private static final int AND = 25;
    private static final int OR = 26;
    private static final int EITHER = 27;
    private static final int LEFT = 28;
    private static final int RIGHT = 29;
    private static final int LESS = 30;
    private static final int SAME = 31;
    private static final int IS_ZERO = 32;
    private static final int QUOTIENT = 33;
    private static final int REST = 34;
    private static final int LOOKUP = 35;
    private static final int CHOICE = 36;

    private static final int CODE_END = 0;
    private static final int CODE_PUSH = 1;
    private static final int CODE_LOAD = 2;
    private static final int CODE_STORE = 3;
    private static final int CODE_CHOICE = 17;
    private static final int CODE_JUMP = 18;
    private static final int CODE_JUMP_IF_ZERO = 19;
    private static final int CODE_TELL = 20;
    private static final int CODE_READ = 21;
    private static final int CODE_WRITE = 22;
    private static final int CODE_MASK = 23;
    private static final int CODE_MASK_ELSE = 24;
    private static final int CODE_STORE_MASKED = 25;
    private static final int CODE_WRITE_MASKED = 26;
    private static final int CODE_READ_ALL = 27;
    private static final int CODE_WRITE_ALL = 28;
    private static final int CODE_COUNT_NONE = 29;
    private static final int CODE_COUNT_PUSH = 30;
    private static final int CODE_COUNT_MORE = 31;

    // The instructions 4 .. 17 are the tokens 22 .. 36 without 35, in the same order.
    private static final int TOKEN_ABOVE_CODE = 18;
    private static final int CODE_SUM = SUM - TOKEN_ABOVE_CODE;
    private static final int CODE_LESS = LESS - TOKEN_ABOVE_CODE;
    private static final int CODE_IS_ZERO = IS_ZERO - TOKEN_ABOVE_CODE;
    private static final int CODE_REST = REST - TOKEN_ABOVE_CODE;

    private final Store store;
    private final Program text;
    private final Program program;
    private final Tape code;
    private final Tape told;
    private final Trace trace;
    private final Reader reader;
    private final Coder coder;
    private final Machine machine;
    private final Walker walker;
    private int faultPlace;

    public SteadyCompiler() {
        store = new Store();
        text = new Program();
        program = new Program();
        code = new Tape(CODE_ROOM);
        told = new Tape(TOLD_ROOM);
        trace = new Trace();
        reader = new Reader(text, store);
        coder = new Coder(program, code);
        machine = new Machine(code, store, told, trace);
        walker = new Walker(program, store, told);
        faultPlace = NONE;
    }

    public int variable(int v, boolean secret) {
        if (!store.hasVariable(v)) {
            return BAD;
        }
        int before = store.isSecretVariable(v) ? 1 : 0;
        store.declareVariable(v, secret);
        dropProgram();
        return before;
    }

    public int table(int t, boolean secret, int numbers) {
        if (!store.hasTable(t) || numbers < 1 || numbers > TABLE_ROOM) {
            return BAD;
        }
        int before = store.sizeOf(t);
        store.declareTable(t, secret, numbers);
        dropProgram();
        return before;
    }

    public int token(int n) {
        return text.add(n) ? text.size() : FULL;
    }

    public int check() {
        int fault = reader.findFault();
        faultPlace = reader.faultPlace();
        if (fault == NO_FAULT) {
            program.copyFrom(text);
            coder.writeCode();
        }
        text.clear();
        return fault == NO_FAULT ? code.size() : fault;
    }

    public int place() {
        return faultPlace;
    }

    public int code(int i) {
        return code.read(i, 0);
    }

    public int set(int v, int n) {
        if (!store.hasVariable(v)) {
            return BAD;
        }
        int before = store.numberOf(v);
        store.assign(v, n);
        return before;
    }

    public int put(int t, int i, int n) {
        if (!store.hasCell(t, i)) {
            return BAD;
        }
        int before = store.cell(t, i);
        store.lay(t, i, n);
        return before;
    }

    public int get(int v) {
        return store.hasVariable(v) ? store.numberOf(v) : BAD;
    }

    public int at(int t, int i) {
        return store.hasCell(t, i) ? store.cell(t, i) : BAD;
    }

    public int run() {
        return hasProgram() ? machine.runCode() : BAD;
    }

    public int plain() {
        return hasProgram() ? walker.walk() : BAD;
    }

    public int told(int i) {
        return told.read(i, 0);
    }

    public int trace(int i) {
        return trace.read(i);
    }

    public long mark() {
        return trace.sum();
    }

    public int count(int what) {
        switch (what) {
            case 0:
                return text.size();
            case 1:
                return code.size();
            case 2:
                return told.size();
            case 3:
                return trace.size();
            default:
                return BAD;
        }
    }

    // The CODE of any PROGRAM has at least its end, so empty CODE can stand for no PROGRAM.
    private boolean hasProgram() {
        return code.size() > 0;
    }

    private void dropProgram() {
        code.clear();
    }

    /** Numbers in a row; those beyond the room are lost, but counted. */
    private static final class Tape {
        private final int[] kept;
        private int size;

        Tape(int room) {
            kept = new int[Math.max(room, 0)];
        }

        void clear() {
            size = 0;
        }

        void add(int n) {
            if (size >= 0 && size < kept.length) {
                kept[size] = n;
            }
            size++;
        }

        int read(int i, int otherwise) {
            return i >= 0 && i < size && i < kept.length ? kept[i] : otherwise;
        }

        void write(int i, int n) {
            if (i >= 0 && i < size && i < kept.length) {
                kept[i] = n;
            }
        }

        int size() {
            return size;
        }
    }

    /** All that could be seen of a run of CODE. */
    private static final class Trace {
        private final Tape numbers;
        private long sum;

        Trace() {
            numbers = new Tape(TRACE_ROOM);
        }

        void clear() {
            numbers.clear();
            sum = 0;
        }

        void add(int n) {
            numbers.add(n);
            sum = 31 * sum + n;
        }

        int read(int i) {
            return numbers.read(i, NONE);
        }

        long sum() {
            return sum;
        }

        int size() {
            return numbers.size();
        }
    }

    /** The variables and the TABLES. */
    private static final class Store {
        private final int[] numbers;
        private final boolean[] secretNumbers;
        private final int[] cells;
        private final int[] sizes;
        private final boolean[] secretTables;

        Store() {
            numbers = new int[VARIABLES];
            secretNumbers = new boolean[VARIABLES];
            cells = new int[TABLES * TABLE_ROOM];
            sizes = new int[TABLES];
            secretTables = new boolean[TABLES];
            Arrays.fill(sizes, FIRST_TABLE_SIZE);
        }

        boolean hasVariable(int v) {
            return v >= 0 && v < VARIABLES;
        }

        boolean isSecretVariable(int v) {
            return hasVariable(v) && secretNumbers[v];
        }

        void declareVariable(int v, boolean secret) {
            if (hasVariable(v)) {
                secretNumbers[v] = secret;
            }
        }

        int numberOf(int v) {
            return hasVariable(v) ? numbers[v] : 0;
        }

        void assign(int v, int n) {
            if (hasVariable(v)) {
                numbers[v] = n;
            }
        }

        boolean hasTable(int t) {
            return t >= 0 && t < TABLES;
        }

        boolean isSecretTable(int t) {
            return hasTable(t) && secretTables[t];
        }

        int sizeOf(int t) {
            return hasTable(t) ? sizes[t] : 0;
        }

        void declareTable(int t, boolean secret, int size) {
            if (!hasTable(t) || size < 1 || size > TABLE_ROOM) {
                return;
            }
            secretTables[t] = secret;
            sizes[t] = size;
            for (int i = 0; i < TABLE_ROOM; i++) {
                cells[TABLE_ROOM * t + i] = 0;
            }
        }

        boolean hasCell(int t, int i) {
            return t >= 0 && t < TABLES && i >= 0 && i < TABLE_ROOM && i < sizes[t];
        }

        int cell(int t, int i) {
            return hasCell(t, i) ? cells[TABLE_ROOM * t + i] : 0;
        }

        void lay(int t, int i, int n) {
            if (hasCell(t, i)) {
                cells[TABLE_ROOM * t + i] = n;
            }
        }

        int placeIn(int t, int n) {
            int size = hasTable(t) ? sizes[t] : 0;
            return size < 1 ? 0 : (int) ((n & 0xFFFFFFFFL) % size);
        }
    }

    /** Tokens, and what the Reader noted at each one with which an S or an E begins. */
    private static final class Program {
        private final int[] tokens;
        // Where what begins here has ended; 0, if neither an S nor an E begins here.
        private final int[] behind;
        // How many 3 with a SECRET E are around.
        private final int[] masks;
        // Of an E whether it is SECRET, of an S whether one E right behind its token is.
        private final boolean[] secret;
        private int size;

        Program() {
            tokens = new int[TEXT_ROOM];
            behind = new int[TEXT_ROOM];
            masks = new int[TEXT_ROOM];
            secret = new boolean[TEXT_ROOM];
        }

        void clear() {
            size = 0;
            Arrays.fill(behind, 0);
        }

        boolean add(int n) {
            if (size < 0 || size >= TEXT_ROOM) {
                return false;
            }
            tokens[size] = n;
            size++;
            return true;
        }

        void copyFrom(Program other) {
            for (int i = 0; i < TEXT_ROOM; i++) {
                tokens[i] = other.tokens[i];
                behind[i] = other.behind[i];
                masks[i] = other.masks[i];
                secret[i] = other.secret[i];
            }
            size = other.size;
        }

        void note(int place, int end, int masksAround, boolean isSecret) {
            if (has(place)) {
                behind[place] = end;
                masks[place] = masksAround;
                secret[place] = isSecret;
            }
        }

        boolean has(int place) {
            return place >= 0 && place < size && place < TEXT_ROOM;
        }

        int size() {
            return size;
        }

        int tokenAt(int place) {
            return place >= 0 && place < size && place < TEXT_ROOM ? tokens[place] : END;
        }

        boolean begins(int place) {
            return has(place) && behind[place] > 0;
        }

        int behind(int place) {
            return has(place) ? behind[place] : 0;
        }

        int masksAround(int place) {
            return has(place) ? masks[place] : 0;
        }

        boolean isSecret(int place) {
            return has(place) && secret[place];
        }

        /** Where the first S or E inside the one at the place begins: behind its token, and its v, t or n. */
        int inside(int place) {
            switch (tokenAt(place)) {
                case LET:
                case LAY:
                case TIMES:
                case LITERAL:
                case NAMED:
                case LOOKUP:
                    return place + 2;
                default:
                    return place + 1;
            }
        }

        /** Where the 0 or 4 stands that ends the S* which begin at the place. */
        int endOf(int first) {
            int place = first;
            for (int i = 0; i < TEXT_ROOM && begins(place); i++) {
                place = behind(place);
            }
            return place;
        }
    }

    /** What the tokens of E say of numbers. */
    private static final class Reckoning {
        /** How many E stand behind a token of E. */
        static int partsOf(int token) {
            switch (token) {
                case LITERAL:
                case NAMED:
                    return 0;
                case IS_ZERO:
                case LOOKUP:
                    return 1;
                case CHOICE:
                    return 3;
                default:
                    return 2;
            }
        }

        static boolean traps(int token, int second) {
            return (token == QUOTIENT || token == REST) && second == 0;
        }

        static int reckon(int token, int a, int b) {
            switch (token) {
                case SUM:
                    return a + b;
                case DIFFERENCE:
                    return a - b;
                case PRODUCT:
                    return a * b;
                case AND:
                    return a & b;
                case OR:
                    return a | b;
                case EITHER:
                    return a ^ b;
                case LEFT:
                    return a << (b & 31);
                case RIGHT:
                    return a >>> (b & 31);
                case LESS:
                    return a < b ? 1 : 0;
                case SAME:
                    return a == b ? 1 : 0;
                case IS_ZERO:
                    return a == 0 ? 1 : 0;
                case QUOTIENT:
                    return b == 0 ? 0 : a / b;
                case REST:
                    return b == 0 ? 0 : a % b;
                default:
                    return 0;
            }
        }
    }

    /** Finds the first fault of THE TEXT, and notes in it what the Coder and the Walker need. */
    private static final class Reader {
        private final Program text;
        private final Store store;
        private int next;
        private int fault;
        private int faultPlace;

        Reader(Program text, Store store) {
            this.text = text;
            this.store = store;
            faultPlace = NONE;
        }

        int findFault() {
            next = 0;
            fault = NO_FAULT;
            faultPlace = NONE;
            readStatements(false, 0, 0);
            if (fault == NO_FAULT && text.has(next)) {
                blame(WRONG, next);
            }
            if (fault == NO_FAULT) {
                findLeak();
            }
            return fault;
        }

        int faultPlace() {
            return faultPlace;
        }

        private void blame(int what, int place) {
            if (fault == NO_FAULT) {
                fault = what;
                faultPlace = place;
            }
        }

        /** Reads S* and the token that ends them: that token. */
        private int readStatements(boolean elseMayEnd, int depth, int masks) {
            for (int i = 0; i <= TEXT_ROOM && fault == NO_FAULT; i++) {
                int token = text.tokenAt(next);
                if (text.has(next) && (token == END || token == ELSE && elseMayEnd)) {
                    next++;
                    return token;
                }
                readStatement(depth, masks);
            }
            return END;
        }

        private void readStatement(int depth, int masks) {
            int start = next;
            int token = text.tokenAt(start);
            if (!mayBegin(token >= LET && token <= TELL && token != ELSE, depth)) {
                return;
            }
            boolean secret = false;
            switch (token) {
                case LET:
                    readBelow(VARIABLES);
                    secret = readExpression(depth + 1, masks);
                    break;
                case LAY:
                    readBelow(TABLES);
                    boolean where = readExpression(depth + 1, masks);
                    boolean what = readExpression(depth + 1, masks);
                    secret = where || what;
                    break;
                case IF:
                    secret = readExpression(depth + 1, masks);
                    int inner = secret ? masks + 1 : masks;
                    if (readStatements(true, depth + 1, inner) == ELSE) {
                        readStatements(false, depth + 1, inner);
                    }
                    break;
                case WHILE:
                    secret = readExpression(depth + 1, masks);
                    readStatements(false, depth + 1, masks);
                    break;
                case TIMES:
                    readBelow(MOST_TIMES + 1);
                    readStatements(false, depth + 1, masks);
                    break;
                default:
                    secret = readExpression(depth + 1, masks);
                    break;
            }
            text.note(start, next, masks, secret);
        }

        /** Reads an E: whether it is SECRET. */
        private boolean readExpression(int depth, int masks) {
            int start = next;
            int token = text.tokenAt(start);
            if (fault != NO_FAULT || !mayBegin(token >= LITERAL && token <= CHOICE, depth)) {
                return false;
            }
            boolean secret = readOwnWord(token);
            int parts = Reckoning.partsOf(token);
            for (int i = 0; i < parts; i++) {
                if (readExpression(depth + 1, masks)) {
                    secret = true;
                }
            }
            text.note(start, next, masks, secret);
            return secret;
        }

        /** Passes the token with which an S or E begins, if it may stand here and is not DEEP. */
        private boolean mayBegin(boolean fits, int depth) {
            if (!fits || !text.has(next)) {
                blame(WRONG, next);
            } else if (depth >= DEEPEST) {
                blame(DEEP, next);
            } else {
                next++;
            }
            return fault == NO_FAULT;
        }

        /** Reads the n, v or t of a token of E, if it has one: whether that alone makes E SECRET. */
        private boolean readOwnWord(int token) {
            switch (token) {
                case LITERAL:
                    if (text.has(next)) {
                        next++;
                    } else {
                        blame(WRONG, next);
                    }
                    return false;
                case NAMED:
                    return store.isSecretVariable(readBelow(VARIABLES));
                case LOOKUP:
                    return store.isSecretTable(readBelow(TABLES));
                default:
                    return false;
            }
        }

        private int readBelow(int bound) {
            int n = text.tokenAt(next);
            if (!text.has(next)) {
                blame(WRONG, next);
            } else if (n < 0 || n >= bound) {
                blame(NUMBER, next);
            } else {
                next++;
            }
            return n;
        }

        private void findLeak() {
            for (int i = 0; i < TEXT_ROOM && i < text.size() && fault == NO_FAULT; i++) {
                if (text.begins(i) && isOpen(i) && (text.isSecret(i) || text.masksAround(i) > 0)) {
                    blame(LEAK, i);
                }
            }
        }

        /** Whether all can see what the S or E at the place does. */
        private boolean isOpen(int place) {
            switch (text.tokenAt(place)) {
                case LET:
                    return !store.isSecretVariable(text.tokenAt(place + 1));
                case LAY:
                    return !store.isSecretTable(text.tokenAt(place + 1));
                case WHILE:
                case TELL:
                case QUOTIENT:
                case REST:
                    return true;
                default:
                    return false;
            }
        }
    }

    /** Writes the CODE of a PROGRAM that has no fault. */
    private static final class Coder {
        private final Program program;
        private final Tape code;

        Coder(Program program, Tape code) {
            this.program = program;
            this.code = code;
        }

        void writeCode() {
            code.clear();
            writeStatements(0, 0, 0);
            code.add(CODE_END);
        }

        private void writeStatements(int first, int depth, int loops) {
            int place = first;
            for (int i = 0; i < TEXT_ROOM && program.begins(place); i++) {
                writeStatement(place, depth, loops);
                place = program.behind(place);
            }
        }

        private void writeStatement(int place, int depth, int loops) {
            if (depth >= DEEPEST) {
                return;
            }
            switch (program.tokenAt(place)) {
                case LET:
                    writeLet(place, depth);
                    break;
                case LAY:
                    writeLay(place, depth);
                    break;
                case IF:
                    writeIf(place, depth, loops);
                    break;
                case WHILE:
                    writeWhile(place, depth, loops);
                    break;
                case TIMES:
                    writeTimes(place, depth, loops);
                    break;
                default:
                    writeExpression(program.inside(place), depth + 1);
                    code.add(CODE_TELL);
                    break;
            }
        }

        private void writeLet(int place, int depth) {
            int masks = program.masksAround(place);
            int v = program.tokenAt(place + 1);
            writeExpression(program.inside(place), depth + 1);
            if (masks > 0) {
                writeMasked(CODE_STORE_MASKED, masks, v);
            } else {
                write(CODE_STORE, v);
            }
        }

        private void writeLay(int place, int depth) {
            int masks = program.masksAround(place);
            int t = program.tokenAt(place + 1);
            int where = program.inside(place);
            writeExpression(where, depth + 1);
            writeExpression(program.behind(where), depth + 1);
            if (program.isSecret(where)) {
                writeMasked(CODE_WRITE_ALL, masks, t);
            } else if (masks > 0) {
                writeMasked(CODE_WRITE_MASKED, masks, t);
            } else {
                write(CODE_WRITE, t);
            }
        }

        private void writeIf(int place, int depth, int loops) {
            int condition = program.inside(place);
            int first = program.behind(condition);
            int end = program.endOf(first);
            boolean hasElse = program.tokenAt(end) == ELSE;
            writeExpression(condition, depth + 1);
            if (program.isSecret(condition)) {
                int mask = program.masksAround(place) + 1;
                write(CODE_MASK, mask);
                writeStatements(first, depth + 1, loops);
                if (hasElse) {
                    write(CODE_MASK_ELSE, mask);
                    writeStatements(end + 1, depth + 1, loops);
                }
                return;
            }
            int past = writeJump(CODE_JUMP_IF_ZERO);
            writeStatements(first, depth + 1, loops);
            if (hasElse) {
                int over = writeJump(CODE_JUMP);
                land(past);
                writeStatements(end + 1, depth + 1, loops);
                land(over);
            } else {
                land(past);
            }
        }

        private void writeWhile(int place, int depth, int loops) {
            int condition = program.inside(place);
            int again = code.size();
            writeExpression(condition, depth + 1);
            int out = writeJump(CODE_JUMP_IF_ZERO);
            writeStatements(program.behind(condition), depth + 1, loops);
            write(CODE_JUMP, again);
            land(out);
        }

        private void writeTimes(int place, int depth, int loops) {
            write(CODE_COUNT_NONE, loops);
            int again = code.size();
            write(CODE_COUNT_PUSH, loops);
            write(CODE_PUSH, program.tokenAt(place + 1));
            code.add(CODE_LESS);
            int out = writeJump(CODE_JUMP_IF_ZERO);
            writeStatements(program.inside(place), depth + 1, loops + 1);
            write(CODE_COUNT_MORE, loops);
            write(CODE_JUMP, again);
            land(out);
        }

        private void writeExpression(int place, int depth) {
            if (depth >= DEEPEST) {
                return;
            }
            int token = program.tokenAt(place);
            int inside = program.inside(place);
            int parts = Reckoning.partsOf(token);
            int part = inside;
            for (int i = 0; i < parts; i++) {
                writeExpression(part, depth + 1);
                part = program.behind(part);
            }
            switch (token) {
                case LITERAL:
                    write(CODE_PUSH, program.tokenAt(place + 1));
                    break;
                case NAMED:
                    write(CODE_LOAD, program.tokenAt(place + 1));
                    break;
                case LOOKUP:
                    write(program.isSecret(inside) ? CODE_READ_ALL : CODE_READ, program.tokenAt(place + 1));
                    break;
                case CHOICE:
                    code.add(CODE_CHOICE);
                    break;
                default:
                    code.add(token - TOKEN_ABOVE_CODE);
                    break;
            }
        }

        private void write(int instruction, int word) {
            code.add(instruction);
            code.add(word);
        }

        private void writeMasked(int instruction, int mask, int word) {
            code.add(instruction);
            code.add(mask);
            code.add(word);
        }

        /** Writes a jump whose aim is not known yet: the place of the word that land() fills in. */
        private int writeJump(int instruction) {
            write(instruction, 0);
            return code.size() - 1;
        }

        private void land(int jump) {
            code.write(jump, code.size());
        }
    }

    /** Runs CODE and keeps the trace. */
    private static final class Machine {
        // How many words each instruction has.
        private static final int[] WIDTHS = {
            1, 2, 2, 2, 1, 1, 1, 1, 1, 1, 1, 1, 1, 1, 1, 1,
            1, 1, 2, 2, 1, 2, 2, 2, 2, 3, 3, 2, 3, 2, 2, 2
        };

        private final Tape code;
        private final Store store;
        private final Tape told;
        private final Trace trace;
        private final int[] pile;
        private final int[] masks;
        private final int[] counts;
        private int height;
        private int next;

        Machine(Tape code, Store store, Tape told, Trace trace) {
            this.code = code;
            this.store = store;
            this.told = told;
            this.trace = trace;
            pile = new int[PILE_ROOM];
            masks = new int[DEEPEST + 1];
            counts = new int[DEEPEST];
            masks[0] = -1;
        }

        int runCode() {
            told.clear();
            trace.clear();
            height = 0;
            next = 0;
            for (int done = 1; done <= MOST_INSTRUCTIONS; done++) {
                int instruction = code.read(next, CODE_END);
                trace.add(next);
                if (instruction == CODE_END) {
                    return done;
                }
                if (!step(instruction)) {
                    return TRAP;
                }
            }
            return CUT;
        }

        /** Does one instruction: false, if it is a quotient or rest by 0. */
        private boolean step(int instruction) {
            int first = code.read(next + 1, 0);
            int second = code.read(next + 2, 0);
            next += instruction >= 0 && instruction < WIDTHS.length ? WIDTHS[instruction] : 1;
            if (instruction >= CODE_SUM && instruction <= CODE_REST) {
                return reckonTop(instruction);
            }
            if (instruction <= CODE_TELL) {
                stepOpenly(instruction, first);
            } else if (instruction < CODE_COUNT_NONE) {
                stepInStore(instruction, first, second);
            } else {
                stepCount(instruction, first);
            }
            return true;
        }

        private boolean reckonTop(int instruction) {
            int token = instruction + TOKEN_ABOVE_CODE;
            int second = instruction == CODE_IS_ZERO ? 0 : pop();
            int first = pop();
            if (Reckoning.traps(token, second)) {
                return false;
            }
            push(Reckoning.reckon(token, first, second));
            return true;
        }

        private void stepOpenly(int instruction, int word) {
            switch (instruction) {
                case CODE_PUSH:
                    push(word);
                    break;
                case CODE_LOAD:
                    push(store.numberOf(word));
                    break;
                case CODE_STORE:
                    store.assign(word, pop());
                    break;
                case CODE_CHOICE:
                    choose();
                    break;
                case CODE_JUMP:
                    next = word;
                    break;
                case CODE_JUMP_IF_ZERO:
                    next = pop() == 0 ? word : next;
                    break;
                default:
                    told.add(pop());
                    break;
            }
        }

        private void choose() {
            int otherwise = pop();
            int chosen = pop();
            push(pop() != 0 ? chosen : otherwise);
        }

        private void stepInStore(int instruction, int first, int second) {
            switch (instruction) {
                case CODE_READ:
                case CODE_READ_ALL:
                    readTable(first, instruction == CODE_READ_ALL);
                    break;
                case CODE_WRITE:
                    writeTable(first, -1, false);
                    break;
                case CODE_MASK:
                    setMask(first, pop() != 0 ? maskAt(first - 1) : 0);
                    break;
                case CODE_MASK_ELSE:
                    setMask(first, maskAt(first - 1) & ~maskAt(first));
                    break;
                case CODE_STORE_MASKED:
                    store.assign(second, blend(store.numberOf(second), pop(), maskAt(first)));
                    break;
                default:
                    writeTable(second, maskAt(first), instruction == CODE_WRITE_ALL);
                    break;
            }
        }

        private void readTable(int t, boolean all) {
            int place = store.placeIn(t, pop());
            touch(t, place, all);
            push(store.cell(t, place));
        }

        private void writeTable(int t, int mask, boolean all) {
            int n = pop();
            int place = store.placeIn(t, pop());
            touch(t, place, all);
            store.lay(t, place, blend(store.cell(t, place), n, mask));
        }

        private void touch(int t, int place, boolean all) {
            int seen = TABLE_SEEN + TABLE_ROOM * t;
            if (!all) {
                trace.add(seen + place);
                return;
            }
            int size = store.sizeOf(t);
            for (int i = 0; i < TABLE_ROOM && i < size; i++) {
                trace.add(seen + i);
            }
        }

        private void stepCount(int instruction, int k) {
            if (k < 0 || k >= counts.length) {
                return;
            }
            switch (instruction) {
                case CODE_COUNT_NONE:
                    counts[k] = 0;
                    break;
                case CODE_COUNT_PUSH:
                    push(counts[k]);
                    break;
                case CODE_COUNT_MORE:
                    counts[k]++;
                    break;
                default:
                    break;
            }
        }

        private static int blend(int before, int after, int mask) {
            return (before & ~mask) | (after & mask);
        }

        private int maskAt(int m) {
            return m >= 0 && m < masks.length ? masks[m] : 0;
        }

        private void setMask(int m, int bits) {
            // MASK 0 is always -1.
            if (m > 0 && m < masks.length) {
                masks[m] = bits;
            }
        }

        private void push(int n) {
            if (height >= 0 && height < pile.length) {
                pile[height] = n;
                height++;
            }
        }

        private int pop() {
            if (height <= 0 || height > pile.length) {
                return 0;
            }
            height--;
            return pile[height];
        }
    }

    /** Does a PROGRAM as it is told, without CODE. */
    private static final class Walker {
        private final Program program;
        private final Store store;
        private final Tape told;
        private int turns;
        private int outcome;

        Walker(Program program, Store store, Tape told) {
            this.program = program;
            this.store = store;
            this.told = told;
        }

        int walk() {
            told.clear();
            turns = 0;
            outcome = GOING;
            doStatements(0, 0);
            return outcome == GOING ? turns : outcome;
        }

        private boolean takeTurn() {
            if (turns >= MOST_TURNS) {
                outcome = CUT;
                return false;
            }
            turns++;
            return true;
        }

        private void doStatements(int first, int depth) {
            int place = first;
            for (int i = 0; i < TEXT_ROOM && outcome == GOING && program.begins(place); i++) {
                doStatement(place, depth);
                place = program.behind(place);
            }
        }

        private void doStatement(int place, int depth) {
            if (depth >= DEEPEST || !takeTurn()) {
                return;
            }
            switch (program.tokenAt(place)) {
                case LET:
                    doLet(place, depth);
                    break;
                case LAY:
                    doLay(place, depth);
                    break;
                case IF:
                    doIf(place, depth);
                    break;
                case WHILE:
                    doWhile(place, depth);
                    break;
                case TIMES:
                    doTimes(place, depth);
                    break;
                default:
                    doTell(place, depth);
                    break;
            }
        }

        private void doLet(int place, int depth) {
            int n = valueOf(program.inside(place), depth + 1);
            if (outcome == GOING) {
                store.assign(program.tokenAt(place + 1), n);
            }
        }

        private void doLay(int place, int depth) {
            int t = program.tokenAt(place + 1);
            int where = program.inside(place);
            int spot = store.placeIn(t, valueOf(where, depth + 1));
            int n = valueOf(program.behind(where), depth + 1);
            if (outcome == GOING) {
                store.lay(t, spot, n);
            }
        }

        private void doIf(int place, int depth) {
            int condition = program.inside(place);
            int asked = valueOf(condition, depth + 1);
            int first = program.behind(condition);
            if (asked != 0) {
                doStatements(first, depth + 1);
                return;
            }
            int end = program.endOf(first);
            if (program.tokenAt(end) == ELSE) {
                doStatements(end + 1, depth + 1);
            }
        }

        private void doWhile(int place, int depth) {
            int condition = program.inside(place);
            int body = program.behind(condition);
            for (int round = 0; round <= MOST_TURNS; round++) {
                int asked = valueOf(condition, depth + 1);
                if (asked == 0 || outcome != GOING) {
                    return;
                }
                doStatements(body, depth + 1);
                if (outcome != GOING || !takeTurn()) {
                    return;
                }
            }
        }

        private void doTimes(int place, int depth) {
            int times = program.tokenAt(place + 1);
            for (int round = 0; round < MOST_TIMES && round < times; round++) {
                doStatements(program.inside(place), depth + 1);
                if (outcome != GOING || !takeTurn()) {
                    return;
                }
            }
        }

        private void doTell(int place, int depth) {
            int n = valueOf(program.inside(place), depth + 1);
            if (outcome == GOING) {
                told.add(n);
            }
        }

        /** What the E at the place is; after a TRAP any number, which nobody uses. */
        private int valueOf(int place, int depth) {
            if (depth >= DEEPEST || outcome != GOING) {
                return 0;
            }
            int token = program.tokenAt(place);
            int word = program.tokenAt(place + 1);
            if (token == LITERAL) {
                return word;
            }
            if (token == NAMED) {
                return store.numberOf(word);
            }
            int first = program.inside(place);
            int a = valueOf(first, depth + 1);
            if (token == LOOKUP) {
                return store.cell(word, store.placeIn(word, a));
            }
            if (token == IS_ZERO) {
                return Reckoning.reckon(token, a, 0);
            }
            int second = program.behind(first);
            int b = valueOf(second, depth + 1);
            if (token == CHOICE) {
                int c = valueOf(program.behind(second), depth + 1);
                return a != 0 ? b : c;
            }
            if (Reckoning.traps(token, b)) {
                outcome = TRAP;
            }
            return Reckoning.reckon(token, a, b);
        }
    }
}
