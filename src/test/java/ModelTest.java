import java.util.Random;

/** Runs of up to 512 calls, drawn with fixed seeds, on the class and on the model. */
public final class ModelTest {
    private static final int RUNS = 4000;
    private static final int CALLS = 512;
    private static final String[] NAMES =
            {"a", "b", "c", "ab", "xyzzyx", "and", "i", "j", "k", "ends", "mi", "btnpx", "m", "n", "o"};
    private static final String[] NUMBERS = {"0", "1", "2", "3", "7", "15", "16", "31", "32", "40", "41",
        "0.5", "0.0001", "1.5", "15.9999", "255", "32767", "32767.9999", "00001", "5", "10", "4.25"};
    private static final String[] WRONG_TOKENS = {"#", ".", "A", "1.", "32768", "000001", "1.23456",
        "toolong", ",", ")", "(", "=", "<", "if", "min", "end", "x", "1", "-", "*", "!", " "};
    private static final String[] JOINS =
            {"|", "&", "<", ">", "=", "+", "-", "*", "/", "%", "+", "-", "*", "/", "%"};
    private static final String[] OF_ONE = {"abs", "flr", "btn", "btnp", "rnd"};
    private static final String[] OF_TWO = {"min", "max", "pget"};

    private final Random random;
    private final Check check;
    private final DotConsole console = new DotConsole();
    private final Model model = new Model();
    private final int run;
    private int calls;

    private ModelTest(int run, Check check) {
        this.run = run;
        this.random = new Random(run);
        this.check = check;
    }

    public static void main(String[] args) {
        Check check = new Check();
        int runs = args.length == 0 ? RUNS : Integer.parseInt(args[0]);
        for (int run = 0; run < runs; run++) {
            new ModelTest(run, check).compare();
        }
        check.finish();
    }

    private void due(String call, int got, int want) {
        calls++;
        check.due("run " + run + ", call " + calls + ": " + call, got, want);
    }

    private boolean hasRoom(int more) {
        return calls + more <= CALLS;
    }

    private String pick(String[] from) {
        return from[random.nextInt(from.length)];
    }

    private void compare() {
        switch (run % 4) {
            case 0 -> addLooseLines();
            case 1 -> addWholeProgram(1);
            default -> addWholeProgram(0);
        }
        if (hasRoom(1)) {
            due("seal", console.seal(), model.seal());
        }
        while (hasRoom(1)) {
            callSomething();
        }
    }

    private void addLooseLines() {
        int lines = random.nextInt(40);
        for (int i = 0; i < lines && hasRoom(150); i++) {
            addLine(damaged(looseLine()));
            if (random.nextInt(6) == 0) {
                callSomething();
            }
        }
    }

    private String looseLine() {
        return switch (random.nextInt(8)) {
            case 0 -> "if " + expression(2);
            case 1 -> "else";
            case 2 -> "while " + expression(2);
            case 3 -> "end";
            case 4 -> "x=" + expression(7);
            default -> plainStatement(random.nextInt(4));
        };
    }

    /** Lines with blocks that fit, so that most such programs can be sealed. */
    private void addWholeProgram(int damage) {
        addBlock(3 + random.nextInt(5), 0, damage);
    }

    private void addBlock(int statements, int depth, int damage) {
        for (int i = 0; i < statements && hasRoom(180); i++) {
            int choice = depth < 5 ? random.nextInt(8) : 7;
            if (choice == 0) {
                addLine("while " + expression(1));
                addBlock(1 + random.nextInt(3), depth + 1, damage);
                addLine("end");
            } else if (choice == 1) {
                addLine("if " + expression(2));
                addBlock(random.nextInt(3), depth + 1, damage);
                if (random.nextBoolean()) {
                    addLine("else");
                    addBlock(random.nextInt(3), depth + 1, damage);
                }
                addLine("end");
            } else {
                String line = plainStatement(random.nextInt(3));
                addLine(damage == 0 ? line : damaged(line));
            }
        }
    }

    private String plainStatement(int depth) {
        String one = expression(depth);
        String two = one + "," + expression(depth);
        return switch (random.nextInt(9)) {
            case 0 -> "cls " + one;
            case 1 -> "pset " + two + "," + expression(depth);
            case 2 -> "line " + two + "," + expression(0) + "," + expression(0) + "," + expression(0);
            case 3 -> "box " + two + "," + expression(0) + "," + expression(0) + "," + expression(0);
            case 4 -> "poke " + two;
            default -> pick(NAMES) + blank() + "=" + blank() + one;
        };
    }

    private String blank() {
        return random.nextInt(8) == 0 ? " ".repeat(1 + random.nextInt(2)) : "";
    }

    private String expression(int depth) {
        int choice = random.nextInt(depth <= 0 ? 2 : 9);
        return blank() + switch (choice) {
            case 0 -> pick(NUMBERS);
            case 1 -> pick(NAMES);
            case 2 -> "(" + expression(depth - 1) + ")";
            case 3 -> pick(new String[] {"-", "!", "@"}) + expression(depth - 1);
            case 4 -> pick(OF_ONE) + blank() + "(" + expression(depth - 1) + ")";
            case 5 -> pick(OF_TWO) + "(" + expression(depth - 1) + "," + expression(depth - 1) + ")";
            default -> expression(depth - 1) + pick(JOINS) + expression(depth - 1);
        };
    }

    private String damaged(String line) {
        int from = random.nextInt(line.length() + 1);
        int to = Math.min(line.length(), from + random.nextInt(3));
        return switch (random.nextInt(6)) {
            case 0 -> line.substring(0, from);
            case 1 -> line.substring(0, from) + line.substring(to);
            case 2 -> line.substring(0, from) + pick(WRONG_TOKENS) + line.substring(from);
            case 3 -> line.substring(0, from) + pick(WRONG_TOKENS) + line.substring(to);
            default -> line;
        };
    }

    private void addLine(String text) {
        if (text.length() > 48 && random.nextInt(10) != 0) {
            return;
        }
        for (int i = 0; i < text.length() && hasRoom(2); i++) {
            due("feed " + text.charAt(i), console.feed(text.charAt(i)), model.feed(text.charAt(i)));
        }
        if (hasRoom(2)) {
            due("add of '" + text + "'", console.add(), model.add());
            due("place of '" + text + "'", console.place(), model.place());
        }
    }

    private int near(int limit) {
        return random.nextInt(limit + 4) - 2;
    }

    private void callSomething() {
        int k = near(13);
        int x = near(16);
        int y = near(16);
        switch (random.nextInt(14)) {
            case 0 -> due("dot " + x + " " + y, console.dot(x, y), model.dot(x, y));
            case 1, 2 -> due("value " + k, console.value(k), model.value(k));
            case 3 -> due("name " + k + " " + y, console.name(k, y), model.name(k, y));
            case 4 -> due("cell " + (x + y), console.cell(x + y), model.cell(x + y));
            case 5 -> due("nodes " + k, console.nodes(k), model.nodes(k));
            case 6 -> due("count " + k, console.count(k), model.count(k));
            case 7 -> callSeldom();
            default -> runFrame();
        }
    }

    private void callSeldom() {
        int character = random.nextInt(140) - 5;
        switch (random.nextInt(5)) {
            case 0 -> due("restart", console.restart(), model.restart());
            case 1 -> due("seal", console.seal(), model.seal());
            case 2 -> due("add", console.add(), model.add());
            case 3 -> due("place", console.place(), model.place());
            default -> due("feed " + character, console.feed(character), model.feed(character));
        }
    }

    private void runFrame() {
        int buttons = random.nextInt(20) == 0 ? random.nextInt(70) - 3 : random.nextInt(4) * 21 & 63;
        if (random.nextInt(3) != 0) {
            buttons = 5;
        }
        due("frame " + buttons, console.frame(buttons), model.frame(buttons));
        if (hasRoom(1)) {
            due("steps", console.count(4), model.count(4));
        }
        for (int k = 0; k < 12 && hasRoom(1) && random.nextInt(12) != 0; k++) {
            due("value " + k, console.value(k), model.value(k));
        }
        for (int i = 0; i < 16 && hasRoom(1) && random.nextInt(12) != 0; i++) {
            int x = random.nextInt(16);
            int y = random.nextInt(16);
            due("dot " + x + " " + y, console.dot(x, y), model.dot(x, y));
        }
    }
}
