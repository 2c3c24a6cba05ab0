import java.util.Arrays;

/** A tiny game console: a small program, run once a frame, draws on a screen of 16 by 16 dots. */
public final class DotConsole {
    public static final int REFUSED = -1;
    public static final int FULL = -2;
    public static final int BAD = -3;

    private static final int TEXT_LIMIT = 48;
    private static final int LINE_LIMIT = 28;
    private static final int NAME_LIMIT = 12;
    private static final int NODE_LIMIT = 16;
    private static final int INSIDE_LIMIT = 5;
    private static final int BLOCK_LIMIT = 4;
    private static final int STEP_LIMIT = 300;
    private static final int LINE_REACH = 40;
    private static final int SCREEN_SIZE = 16;
    private static final int CELL_COUNT = 32;
    private static final int BUTTON_COUNT = 6;
    private static final int BUTTON_MASK = 63;

    /** How far the point stands from the right, and the number one. */
    private static final int POINT = 16;
    private static final int ONE = 65536;
    /** What a division by 0 gives. */
    private static final int GREATEST = 2147483647;
    private static final int LEAST = -2147483648;

    /*
     * Kinds of tokens, nodes and statements. All are below 32, so that a sign can be its own
     * character without being taken for one of them.
     */
    private static final int NO_MORE = 0;
    private static final int NO_TOKEN = 1;
    private static final int NUMBER = 2;
    private static final int NAME = 3;
    private static final int IF = 4;
    private static final int ELSE = 5;
    private static final int WHILE = 6;
    private static final int END = 7;
    private static final int CLS = 8;
    private static final int PSET = 9;
    private static final int LINE = 10;
    private static final int BOX = 11;
    private static final int POKE = 12;
    private static final int ABS = 13;
    private static final int FLR = 14;
    private static final int BTN = 15;
    private static final int BTNP = 16;
    private static final int MIN = 17;
    private static final int MAX = 18;
    private static final int PGET = 19;
    private static final int RND = 20;
    private static final int NEGATE = 21;

    /** The words from IF to RND, in the order of their kinds, each filled up to WORD_WIDTH. */
    private static final String WORDS =
            "if    else  while end   cls   pset  line  box   poke  abs   flr   btn   btnp  min   max   pget  rnd   ";
    private static final int WORD_WIDTH = 6;
    /** How many expressions each of the words from IF to RND takes. */
    private static final int[] PARTS = {1, 0, 1, 0, 1, 3, 5, 5, 2, 1, 1, 1, 1, 2, 2, 2, 1};

    /** A word's key has its letters in one int, five bits for each and 0 for a blank. */
    private static final int LETTER_BITS = 5;
    private static final int LETTER_MASK = 31;

    private static final String SIGNS = "+-*/%<>=&|!@,()";

    private static final int DIGITS_BEFORE = 5;
    private static final int DIGITS_BEHIND = 4;
    private static final int GREATEST_BEFORE = 32767;
    private static final int[] TENS = {1, 10, 100, 1000, 10000};

    /** How tightly operators bind; an open bracket has NO_RANK, so that nothing unwinds it. */
    private static final int NO_RANK = 0;
    private static final int OR_RANK = 1;
    private static final int AND_RANK = 2;
    private static final int TEST_RANK = 3;
    private static final int SUM_RANK = 4;
    private static final int PRODUCT_RANK = 5;
    private static final int PREFIX_RANK = 6;

    private final Tokens tokens;
    private final Names names;
    private final LineReader reader;
    private final Program program;
    private final Machine machine;
    private int badPlace;

    public DotConsole() {
        tokens = new Tokens();
        names = new Names();
        reader = new LineReader(tokens, names);
        program = new Program();
        machine = new Machine(program);
        badPlace = REFUSED;
    }

    public int feed(int character) {
        if (character < 32 || character > 126) {
            return REFUSED;
        }
        return tokens.append((char) character) ? tokens.length : FULL;
    }

    public int add() {
        int answer = REFUSED;
        if (!program.sealed) {
            tokens.cut();
            answer = reader.readLine() ? answerToStatement() : BAD;
        }
        badPlace = answer == BAD ? reader.wrongPlace() : REFUSED;
        if (answer > 0) {
            names.keepSeen();
            program.append(reader);
        }
        tokens.empty();
        return answer;
    }

    private int answerToStatement() {
        if (reader.isTooLarge() || program.lines == LINE_LIMIT || names.tooMany) {
            return FULL;
        }
        return program.lines + 1;
    }

    public int place() {
        return badPlace;
    }

    public int seal() {
        if (program.sealed) {
            return REFUSED;
        }
        int wrong = program.findWrongLine();
        program.sealed = wrong == 0;
        return wrong;
    }

    public int frame(int buttons) {
        if (buttons < 0 || buttons > BUTTON_MASK || !program.sealed) {
            return REFUSED;
        }
        return machine.runFrame(buttons) ? 0 : 1;
    }

    public int restart() {
        machine.reset();
        return 0;
    }

    public int dot(int x, int y) {
        return Screen.isInside(x, y) ? machine.screen.colourAt(x, y) : REFUSED;
    }

    public int value(int k) {
        return k >= 0 && k < names.kept ? machine.values[k] : 0;
    }

    public int name(int k, int i) {
        return names.letterAt(k, i);
    }

    public int cell(int i) {
        return machine.readCell(i);
    }

    public int nodes(int line) {
        return line >= 1 && line <= program.lines ? program.nodeCounts[line - 1] : REFUSED;
    }

    public int count(int what) {
        switch (what) {
            case 0: return program.lines;
            case 1: return tokens.length;
            case 2: return names.kept;
            case 3: return machine.frames;
            case 4: return machine.steps;
            case 5: return program.sealed ? 1 : 0;
            default: return REFUSED;
        }
    }

    private static boolean isBuiltIn(int kind) {
        return kind >= ABS && kind <= RND;
    }

    /** How many parts a node of this kind has inside. */
    private static int partsOf(int kind) {
        if (kind == NUMBER || kind == NAME) {
            return 0;
        }
        if (isBuiltIn(kind)) {
            return PARTS[kind - IF];
        }
        return rankOf(kind) == PREFIX_RANK ? 1 : 2;
    }

    private static int rankOf(int kind) {
        switch (kind) {
            case '|': return OR_RANK;
            case '&': return AND_RANK;
            case '<': case '>': case '=': return TEST_RANK;
            case '+': case '-': return SUM_RANK;
            case '*': case '/': case '%': return PRODUCT_RANK;
            case '!': case '@': case NEGATE: return PREFIX_RANK;
            default: return NO_RANK;
        }
    }

    /** The text of the line that is being typed, and the tokens that it is cut into. */
    private static final class Tokens {
        private final int[] wordKeys = new int[RND - IF + 1];
        private final char[] text = new char[TEXT_LIMIT];
        int length;
        /** The tokens' kinds, and behind them NO_MORE, or NO_TOKEN where the cutting stopped. */
        final int[] kinds = new int[TEXT_LIMIT + 1];
        final int[] starts = new int[TEXT_LIMIT + 1];
        /** What each number means, and the key of each word. */
        final int[] meanings = new int[TEXT_LIMIT + 1];
        private int found;
        private int next;

        Tokens() {
            for (int i = 0; i < wordKeys.length * WORD_WIDTH; i++) {
                wordKeys[i / WORD_WIDTH] = withLetter(wordKeys[i / WORD_WIDTH], WORDS.charAt(i));
            }
        }

        boolean append(char character) {
            if (length == TEXT_LIMIT) {
                return false;
            }
            text[length] = character;
            length++;
            return true;
        }

        void empty() {
            length = 0;
        }

        void cut() {
            next = 0;
            for (found = 0; found <= TEXT_LIMIT; found++) {
                while (next < length && text[next] == ' ') {
                    next++;
                }
                starts[found] = next;
                kinds[found] = cutToken();
                if (kinds[found] == NO_MORE || kinds[found] == NO_TOKEN) {
                    return;
                }
            }
        }

        private int cutToken() {
            if (next == length) {
                return NO_MORE;
            }
            if (isLetter(text[next])) {
                return cutWord();
            }
            if (isDigit(text[next])) {
                return cutNumber();
            }
            char sign = text[next];
            next++;
            return SIGNS.indexOf(sign) >= 0 ? sign : NO_TOKEN;
        }

        private int cutWord() {
            int start = next;
            while (next < length && isLetter(text[next])) {
                next++;
            }
            if (next - start > WORD_WIDTH) {
                return NO_TOKEN;
            }
            int key = 0;
            for (int i = start; i < start + WORD_WIDTH; i++) {
                key = withLetter(key, i < next ? text[i] : ' ');
            }
            meanings[found] = key;
            return kindOfWord(key);
        }

        private int kindOfWord(int key) {
            for (int i = 0; i < wordKeys.length; i++) {
                if (wordKeys[i] == key) {
                    return IF + i;
                }
            }
            return NAME;
        }

        private int cutNumber() {
            int start = next;
            int point = endOfDigits(start);
            boolean hasPoint =
                    point + 1 < length && text[point] == '.' && isDigit(text[point + 1]);
            next = hasPoint ? endOfDigits(point + 1) : point;
            int behind = hasPoint ? next - point - 1 : 0;
            // The digits are counted before they are read: too many of them would wrap.
            if (point - start > DIGITS_BEFORE || behind > DIGITS_BEHIND
                    || digitsFrom(start, point) > GREATEST_BEFORE) {
                return NO_TOKEN;
            }
            meanings[found] = digitsFrom(start, point) * ONE
                    + digitsFrom(point + 1, next) * ONE / TENS[behind];
            return NUMBER;
        }

        private int endOfDigits(int from) {
            int end = from;
            while (end < length && isDigit(text[end])) {
                end++;
            }
            return end;
        }

        private int digitsFrom(int from, int to) {
            int all = 0;
            for (int i = from; i < to; i++) {
                all = all * 10 + (text[i] - '0');
            }
            return all;
        }

        private static boolean isDigit(char character) {
            return character >= '0' && character <= '9';
        }

        private static boolean isLetter(char character) {
            return character >= 'a' && character <= 'z';
        }

        private static int withLetter(int key, char letter) {
            return key << LETTER_BITS | letter & LETTER_MASK;
        }
    }

    /** The program's names, and behind them those that a line being read would bring. */
    private static final class Names {
        private final int[] keys = new int[NAME_LIMIT];
        int kept;
        private int seen;
        boolean tooMany;

        void forgetSeen() {
            seen = kept;
            tooMany = false;
        }

        void keepSeen() {
            kept = seen;
        }

        /** The number of the name; 0 for one that finds no room, as its line will be refused. */
        int findOrSee(int key) {
            for (int k = 0; k < seen; k++) {
                if (keys[k] == key) {
                    return k;
                }
            }
            if (seen == NAME_LIMIT) {
                tooMany = true;
                return 0;
            }
            keys[seen] = key;
            seen++;
            return seen - 1;
        }

        int letterAt(int k, int i) {
            if (k < 0 || k >= kept || i < 0 || i >= WORD_WIDTH) {
                return REFUSED;
            }
            int letter = keys[k] >> LETTER_BITS * (WORD_WIDTH - 1 - i) & LETTER_MASK;
            return letter == 0 ? REFUSED : letter + 'a' - 1;
        }
    }

    /**
     * Reads a line's tokens as a statement and puts its nodes in the order in which they are worked
     * out. Operators wait on a stack of their own: brackets can be as deep as the text is long, and
     * this way no depth of calls goes with them.
     */
    private static final class LineReader {
        private final Tokens tokens;
        private final Names names;
        /** The token that is being read. */
        private int at;
        int statement;
        /** The name before '='. */
        int target;
        final int[] kinds = new int[TEXT_LIMIT];
        final int[] operands = new int[TEXT_LIMIT];
        int nodeCount;
        /** How many levels of nodes stand inside of each value that is still to be used. */
        private final int[] levels = new int[TEXT_LIMIT];
        private int levelCount;
        private int mostLevels;
        /** Operators and open brackets that wait for what is behind them. */
        private final int[] waiting = new int[TEXT_LIMIT];
        private final int[] waitingRanks = new int[TEXT_LIMIT];
        /** The commas that are still due in each open bracket, and outside of all. */
        private final int[] commasDue = new int[TEXT_LIMIT];
        private int waitingCount;
        private int outerCommasDue;
        private boolean wantsPart;

        LineReader(Tokens tokens, Names names) {
            this.tokens = tokens;
            this.names = names;
        }

        boolean isTooLarge() {
            return nodeCount > NODE_LIMIT || mostLevels > INSIDE_LIMIT;
        }

        /** Where the token starts that made the last line no statement. */
        int wrongPlace() {
            return tokens.starts[at];
        }

        /** Whether the tokens are a statement. */
        boolean readLine() {
            clear();
            statement = tokens.kinds[0];
            if (statement == NAME) {
                return readTarget() && readExpressions(1);
            }
            if (statement < IF || statement > POKE) {
                return false;
            }
            int due = PARTS[statement - IF];
            return due == 0 ? readNothing() : readExpressions(due);
        }

        private void clear() {
            names.forgetSeen();
            at = 0;
            target = 0;
            nodeCount = 0;
            levelCount = 0;
            mostLevels = 0;
            waitingCount = 0;
        }

        private boolean readTarget() {
            target = names.findOrSee(tokens.meanings[at]);
            at++;
            return tokens.kinds[at] == '=';
        }

        private boolean readNothing() {
            at++;
            return tokens.kinds[at] == NO_MORE;
        }

        /** Reads so many expressions, with commas between, to the end of the tokens. */
        private boolean readExpressions(int due) {
            outerCommasDue = due - 1;
            wantsPart = true;
            while (at < TEXT_LIMIT) {
                at++;
                int kind = tokens.kinds[at];
                if (kind == NO_MORE) {
                    return finish();
                }
                if (!(wantsPart ? takePart(kind) : takeJoin(kind))) {
                    return false;
                }
            }
            return false;
        }

        private boolean finish() {
            if (wantsPart || outerCommasDue > 0) {
                return false;
            }
            unwind(NO_RANK + 1);
            return waitingCount == 0;
        }

        private boolean takePart(int kind) {
            switch (kind) {
                case NUMBER:
                    emit(NUMBER, tokens.meanings[at], 0);
                    return true;
                case NAME:
                    emit(NAME, names.findOrSee(tokens.meanings[at]), 0);
                    return true;
                case '-':
                    hold(NEGATE, PREFIX_RANK, 0);
                    return true;
                case '!': case '@':
                    hold(kind, PREFIX_RANK, 0);
                    return true;
                case '(':
                    hold(kind, NO_RANK, 0);
                    return true;
                default:
                    return isBuiltIn(kind) && takeBuiltIn(kind);
            }
        }

        private boolean takeBuiltIn(int kind) {
            at++;
            if (tokens.kinds[at] != '(') {
                return false;
            }
            hold(kind, NO_RANK, PARTS[kind - IF] - 1);
            return true;
        }

        private boolean takeJoin(int kind) {
            if (kind == ')') {
                return takeClose();
            }
            if (kind == ',') {
                return takeComma();
            }
            int rank = rankOf(kind);
            if (rank == NO_RANK || rank == PREFIX_RANK) {
                return false;
            }
            // One test cannot stand beside another, so a waiting one is not done but refused.
            unwind(rank == TEST_RANK ? TEST_RANK + 1 : rank);
            if (rank == TEST_RANK && waitsForTest()) {
                return false;
            }
            hold(kind, rank, 0);
            return true;
        }

        private boolean waitsForTest() {
            return waitingCount > 0 && waitingRanks[waitingCount - 1] == TEST_RANK;
        }

        private boolean takeClose() {
            unwind(NO_RANK + 1);
            if (waitingCount == 0 || commasDue[waitingCount - 1] > 0) {
                return false;
            }
            waitingCount--;
            int opened = waiting[waitingCount];
            if (opened != '(') {
                emit(opened, 0, PARTS[opened - IF]);
            }
            return true;
        }

        private boolean takeComma() {
            unwind(NO_RANK + 1);
            wantsPart = true;
            if (waitingCount == 0) {
                outerCommasDue--;
                return outerCommasDue >= 0;
            }
            commasDue[waitingCount - 1]--;
            return commasDue[waitingCount - 1] >= 0;
        }

        private void hold(int kind, int rank, int commas) {
            waiting[waitingCount] = kind;
            waitingRanks[waitingCount] = rank;
            commasDue[waitingCount] = commas;
            waitingCount++;
            wantsPart = true;
        }

        /** Puts out the waiting operators that bind at least as tightly as the rank. */
        private void unwind(int rank) {
            while (waitingCount > 0 && waitingRanks[waitingCount - 1] >= rank) {
                waitingCount--;
                boolean isPrefix = waitingRanks[waitingCount] == PREFIX_RANK;
                emit(waiting[waitingCount], 0, isPrefix ? 1 : 2);
            }
        }

        private void emit(int kind, int operand, int parts) {
            kinds[nodeCount] = kind;
            operands[nodeCount] = operand;
            nodeCount++;
            int inside = 0;
            for (int i = 0; i < parts; i++) {
                levelCount--;
                inside = Math.max(inside, levels[levelCount] + 1);
            }
            levels[levelCount] = inside;
            levelCount++;
            mostLevels = Math.max(mostLevels, inside);
            wantsPart = false;
        }
    }

    /** The lines of the program. They are counted from 0 here. */
    private static final class Program {
        int lines;
        boolean sealed;
        final int[] statements = new int[LINE_LIMIT];
        final int[] targets = new int[LINE_LIMIT];
        final int[] nodeCounts = new int[LINE_LIMIT];
        /** The nodes of all lines, NODE_LIMIT places for each. */
        final int[] kinds = new int[LINE_LIMIT * NODE_LIMIT];
        final int[] operands = new int[LINE_LIMIT * NODE_LIMIT];
        /** Where if and while go on when their test fails, and where else and end go on. */
        final int[] jumps = new int[LINE_LIMIT];
        /** The last if, else or while of each block that is not ended. */
        private final int[] open = new int[BLOCK_LIMIT];
        private int openCount;

        void append(LineReader read) {
            statements[lines] = read.statement;
            targets[lines] = read.target;
            nodeCounts[lines] = read.nodeCount;
            int first = lines * NODE_LIMIT;
            System.arraycopy(read.kinds, 0, kinds, first, read.nodeCount);
            System.arraycopy(read.operands, 0, operands, first, read.nodeCount);
            lines++;
        }

        /** The number (from 1) of the first wrong line, or 0; the jumps are right if it is 0. */
        int findWrongLine() {
            openCount = 0;
            for (int line = 0; line < lines; line++) {
                if (!fits(line)) {
                    return line + 1;
                }
            }
            return openCount == 0 ? 0 : lines + 1;
        }

        private boolean fits(int line) {
            switch (statements[line]) {
                case IF: case WHILE: return openBlock(line);
                case ELSE: return turnBlock(line);
                case END: return closeBlock(line);
                default: return true;
            }
        }

        private boolean openBlock(int line) {
            if (openCount == BLOCK_LIMIT) {
                return false;
            }
            open[openCount] = line;
            openCount++;
            return true;
        }

        private boolean turnBlock(int line) {
            if (openCount == 0 || statements[open[openCount - 1]] != IF) {
                return false;
            }
            jumps[open[openCount - 1]] = line + 1;
            // From now on the else stands for the block, so that a second one finds no if.
            open[openCount - 1] = line;
            return true;
        }

        private boolean closeBlock(int line) {
            if (openCount == 0) {
                return false;
            }
            openCount--;
            int opener = open[openCount];
            jumps[opener] = line + 1;
            jumps[line] = statements[opener] == WHILE ? opener : line + 1;
            return true;
        }

        /** The line to do next, at or behind this one: else and end are no steps of their own. */
        int skipMarks(int line) {
            int found = line;
            for (int hop = 0; hop < LINE_LIMIT && isMark(found); hop++) {
                found = jumps[found];
            }
            return found;
        }

        private boolean isMark(int line) {
            return line < lines && (statements[line] == ELSE || statements[line] == END);
        }
    }

    /** The dots. */
    private static final class Screen {
        private final int[] dots = new int[SCREEN_SIZE * SCREEN_SIZE];

        static boolean isInside(int x, int y) {
            return x >= 0 && x < SCREEN_SIZE && y >= 0 && y < SCREEN_SIZE;
        }

        int colourAt(int x, int y) {
            return isInside(x, y) ? dots[y * SCREEN_SIZE + x] : 0;
        }

        void paint(int x, int y, int colour) {
            if (isInside(x, y)) {
                dots[y * SCREEN_SIZE + x] = colour;
            }
        }

        void paintAll(int colour) {
            Arrays.fill(dots, colour);
        }

        void paintLine(int x, int y, int v, int w, int colour) {
            int n = Math.max(Math.abs(v - x), Math.abs(w - y));
            if (n > LINE_REACH) {
                return;
            }
            for (int i = 0; i <= n; i++) {
                paint(x + rounded(i * (v - x), n), y + rounded(i * (w - y), n), colour);
            }
        }

        /** The floor of m / n + 1 / 2. */
        private static int rounded(int m, int n) {
            return n == 0 ? 0 : Math.floorDiv(2 * m + n, 2 * n);
        }

        void paintBox(int x, int y, int v, int w, int colour) {
            // What lies outside is cut off first, or a far corner would make the loops long.
            int right = Math.min(Math.max(x, v), SCREEN_SIZE - 1);
            int bottom = Math.min(Math.max(y, w), SCREEN_SIZE - 1);
            for (int row = Math.max(Math.min(y, w), 0); row <= bottom; row++) {
                for (int column = Math.max(Math.min(x, v), 0); column <= right; column++) {
                    paint(column, row, colour);
                }
            }
        }
    }

    /** The buttons, each with the frames in a row for which it has been down. */
    private static final class Pad {
        private static final int FIRST_REPEAT = 9;
        private static final int REPEAT_EVERY = 4;

        private final int[] framesDown = new int[BUTTON_COUNT];

        void release() {
            Arrays.fill(framesDown, 0);
        }

        void press(int buttons) {
            for (int b = 0; b < BUTTON_COUNT; b++) {
                framesDown[b] = (buttons >> b & 1) == 1 ? framesDown[b] + 1 : 0;
            }
        }

        boolean isDown(int b) {
            return framesOf(b) > 0;
        }

        boolean isStruck(int b) {
            int k = framesOf(b);
            return k == 1 || k >= FIRST_REPEAT && (k - FIRST_REPEAT) % REPEAT_EVERY == 0;
        }

        private int framesOf(int b) {
            return b >= 0 && b < BUTTON_COUNT ? framesDown[b] : 0;
        }
    }

    /** What a frame changes, and how a frame is run. */
    private static final class Machine {
        private final Program program;
        final Screen screen = new Screen();
        private final Pad pad = new Pad();
        final int[] values = new int[NAME_LIMIT];
        private final int[] cells = new int[CELL_COUNT];
        private int seed = 1;
        int frames;
        int steps;
        /** The values worked out so far: at a line's end those of its expressions, in order. */
        private final int[] stack = new int[NODE_LIMIT];
        private int stackCount;

        Machine(Program program) {
            this.program = program;
        }

        void reset() {
            Arrays.fill(values, 0);
            Arrays.fill(cells, 0);
            screen.paintAll(0);
            pad.release();
            seed = 1;
            frames = 0;
            steps = 0;
        }

        int readCell(int i) {
            return i >= 0 && i < CELL_COUNT ? cells[i] : 0;
        }

        private void writeCell(int i, int number) {
            if (i >= 0 && i < CELL_COUNT) {
                cells[i] = number;
            }
        }

        /** Whether the frame came to the program's end. */
        boolean runFrame(int buttons) {
            pad.press(buttons);
            frames++;
            int line = program.skipMarks(0);
            for (steps = 0; steps < STEP_LIMIT && line < program.lines; steps++) {
                line = program.skipMarks(doLine(line));
            }
            return line >= program.lines;
        }

        /** Does the line and tells which one is due behind it. */
        private int doLine(int line) {
            workOut(line);
            int statement = program.statements[line];
            if (statement == IF || statement == WHILE) {
                return stack[0] != 0 ? line + 1 : program.jumps[line];
            }
            if (statement == NAME) {
                values[program.targets[line]] = stack[0];
            } else if (statement == POKE) {
                writeCell(floor(stack[0]), stack[1]);
            } else {
                draw(statement);
            }
            return line + 1;
        }

        private void draw(int statement) {
            int x = floor(stack[0]);
            int y = floor(stack[1]);
            int v = floor(stack[2]);
            int w = floor(stack[3]);
            switch (statement) {
                case CLS:
                    screen.paintAll(colour(stack[0]));
                    break;
                case PSET:
                    screen.paint(x, y, colour(stack[2]));
                    break;
                case LINE:
                    screen.paintLine(x, y, v, w, colour(stack[4]));
                    break;
                case BOX:
                    screen.paintBox(x, y, v, w, colour(stack[4]));
                    break;
                default:
                    break;
            }
        }

        private void workOut(int line) {
            stackCount = 0;
            int first = line * NODE_LIMIT;
            for (int i = first; i < first + program.nodeCounts[line]; i++) {
                workOutNode(program.kinds[i], program.operands[i]);
            }
        }

        private void workOutNode(int kind, int operand) {
            int parts = partsOf(kind);
            stackCount -= parts;
            if (parts == 0) {
                stack[stackCount] = kind == NAME ? values[operand] : operand;
            } else if (parts == 1) {
                stack[stackCount] = ofOne(kind, stack[stackCount]);
            } else {
                stack[stackCount] = ofTwo(kind, stack[stackCount], stack[stackCount + 1]);
            }
            stackCount++;
        }

        private int ofOne(int kind, int x) {
            switch (kind) {
                case NEGATE: return -x;
                case '!': return test(x == 0);
                case '@': return readCell(floor(x));
                case ABS: return x < 0 ? -x : x;
                case FLR: return floor(x) * ONE;
                case BTN: return test(pad.isDown(floor(x)));
                case BTNP: return test(pad.isStruck(floor(x)));
                case RND: return random(x);
                default: return 0;
            }
        }

        private int ofTwo(int kind, int x, int y) {
            switch (kind) {
                case '|': return x | y;
                case '&': return x & y;
                case '<': return test(x < y);
                case '>': return test(x > y);
                case '=': return test(x == y);
                case '+': return x + y;
                case '-': return x - y;
                case '*': return (int) ((long) x * y >> POINT);
                case '/': return quotient(x, y);
                case '%': return y == 0 ? 0 : Math.floorMod(x, y);
                case MIN: return Math.min(x, y);
                case MAX: return Math.max(x, y);
                case PGET: return screen.colourAt(floor(x), floor(y)) * ONE;
                default: return 0;
            }
        }

        private int random(int x) {
            seed = seed * 1103515245 + 12345;
            return (int) ((long) (seed >>> 16) * x >> POINT);
        }

        private static int quotient(int x, int y) {
            if (y == 0) {
                return x >= 0 ? GREATEST : LEAST;
            }
            return (int) ((long) x * ONE / y);
        }

        private static int test(boolean holds) {
            return holds ? ONE : 0;
        }

        private static int floor(int x) {
            return x >> POINT;
        }

        private static int colour(int x) {
            return floor(x) & 15;
        }
    }
}
