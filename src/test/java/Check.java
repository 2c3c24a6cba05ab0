import java.util.Arrays;

/** Compares answers with those that are due, and types lines into a console. */
final class Check {
    static final int ONE = 65536;
    static final int GREATEST = Integer.MAX_VALUE;
    static final int LEAST = Integer.MIN_VALUE;
    /** Expressions for numbers that cannot be written: the ints 1, LEAST and GREATEST. */
    static final String TINY_TEXT = "(0.0001/6)";
    static final String LEAST_TEXT = "(-32767-1)";
    static final String GREATEST_TEXT = "(1/0)";

    private int asked;
    private int wrong;
    private String sentence = "";
    private int sentences;
    private int askedBefore = -1;

    /** Names the document's sentence that the answers from here on are about. */
    void sentence(String words) {
        noteIfNothingAsked();
        sentence = words;
        sentences++;
        askedBefore = asked;
    }

    private void noteIfNothingAsked() {
        if (asked == askedBefore) {
            wrong++;
            System.out.println("[" + sentence + "] nothing was asked");
        }
    }

    void due(String what, long got, long want) {
        asked++;
        if (got != want) {
            wrong++;
            String about = sentence.isEmpty() ? "" : "[" + sentence + "] ";
            System.out.println(about + what + " answered " + got + ", due is " + want);
        }
    }

    /** The answer of add to the text. */
    void dueAdd(String text, DotConsole console, int want) {
        due("add of '" + text + "'", add(console, text), want);
    }

    /** That a new console takes the text for a statement with so many nodes. */
    void dueGood(String text, int nodes) {
        DotConsole console = new DotConsole();
        dueAdd(text, console, 1);
        due("nodes of '" + text + "'", console.nodes(1), nodes);
    }

    /** That a new console takes the text for a statement that is too large. */
    void dueFull(String text) {
        dueAdd(text, new DotConsole(), DotConsole.FULL);
    }

    /** That a new console takes the text for no statement, and where. */
    void dueBad(String text, int place) {
        DotConsole console = new DotConsole();
        dueAdd(text, console, DotConsole.BAD);
        due("place of '" + text + "'", console.place(), place);
    }

    /** The value of the expression in the first frame of a new console. */
    void dueValue(String expression, int want) {
        DotConsole console = sealed("x=" + expression);
        due("frame with " + expression, console.frame(0), 0);
        due(expression, console.value(0), want);
    }

    /** The screen after a frame of the statement alone; see dueDots. */
    void dueScreen(String statement, String... rows) {
        DotConsole console = sealed(statement);
        due("frame of " + statement, console.frame(0), 0);
        dueDots(statement, console, rows);
    }

    /** All dots: a hexadecimal digit each; '.' is 0, and so is what the rows leave out. */
    void dueDots(String what, DotConsole console, String... rows) {
        for (int y = 0; y < 16; y++) {
            for (int x = 0; x < 16; x++) {
                char mark = y < rows.length && x < rows[y].length() ? rows[y].charAt(x) : '.';
                int want = mark == '.' ? 0 : Character.digit(mark, 16);
                due(what + ": dot " + x + " " + y, console.dot(x, y), want);
            }
        }
    }

    static String[] allRows(String row) {
        String[] rows = new String[16];
        Arrays.fill(rows, row);
        return rows;
    }

    void finish() {
        noteIfNothingAsked();
        String counted = sentences == 0 ? "" : sentences + " sentences, ";
        System.out.println(counted + asked + " answers, " + wrong + " not as due");
        if (wrong != 0 || asked == 0) {
            System.exit(1);
        }
    }

    static void type(DotConsole console, String text) {
        for (int i = 0; i < text.length(); i++) {
            if (console.feed(text.charAt(i)) < 1) {
                throw new IllegalStateException("not fed: " + text);
            }
        }
    }

    static int add(DotConsole console, String text) {
        type(console, text);
        return console.add();
    }

    static DotConsole withLines(String... lines) {
        DotConsole console = new DotConsole();
        for (String line : lines) {
            if (add(console, line) < 1) {
                throw new IllegalStateException("not added: " + line);
            }
        }
        return console;
    }

    static DotConsole sealed(String... lines) {
        DotConsole console = withLines(lines);
        if (console.seal() != 0) {
            throw new IllegalStateException("not sealed: " + String.join("; ", lines));
        }
        return console;
    }
}
