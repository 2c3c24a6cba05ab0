/** Compares answers with those that are due, and types lines into a console. */
final class Check {
    static final int ONE = 65536;

    private int asked;
    private int wrong;

    void due(String what, long got, long want) {
        asked++;
        if (got != want) {
            wrong++;
            System.out.println(what + " answered " + got + ", due is " + want);
        }
    }

    /** The answer of add to the text. */
    void dueAdd(String text, DotConsole console, int want) {
        due("add of '" + text + "'", add(console, text), want);
    }

    /** That a new console takes the text for no statement, and where. */
    void dueBad(String text, int place) {
        DotConsole console = new DotConsole();
        dueAdd(text, console, DotConsole.BAD);
        due("place of '" + text + "'", console.place(), place);
    }

    /** The value of the expression in the first frame of a new console. */
    void dueValue(String expression, int want) {
        DotConsole console = sealed("x=" + expression);
        due("frame with " + expression, console.frame(0), 0);
        due(expression, console.value(0), want);
    }

    void finish() {
        System.out.println(asked + " answers, " + wrong + " not as due");
        if (wrong != 0 || asked == 0) {
            System.exit(1);
        }
    }

    static void type(DotConsole console, String text) {
        for (int i = 0; i < text.length(); i++) {
            if (console.feed(text.charAt(i)) != console.count(1)) {
                throw new IllegalStateException("not fed: " + text);
            }
        }
    }

    static int add(DotConsole console, String text) {
        type(console, text);
        return console.add();
    }

    static DotConsole withLines(String... lines) {
        DotConsole console = new DotConsole();
        for (String line : lines) {
            if (add(console, line) < 1) {
                throw new IllegalStateException("not added: " + line);
            }
        }
        return console;
    }

    static DotConsole sealed(String... lines) {
        DotConsole console = withLines(lines);
        if (console.seal() != 0) {
            throw new IllegalStateException("not sealed: " + String.join("; ", lines));
        }
        return console;
    }
}
