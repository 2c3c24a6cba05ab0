/** Promises 6 to 13, sentence by sentence: frame, restart, and the calls that tell the state. */
public final class RunningEdgesTest {
    private static final int REFUSED = DotConsole.REFUSED;
    private static final int ONE = Check.ONE;
    private static final int[] FAR = {Integer.MIN_VALUE, Integer.MIN_VALUE + 1, -65536, -256, -16, -1, 512, 65536,
        1 << 24, Integer.MAX_VALUE - 1, Integer.MAX_VALUE};

    public static void main(String[] args) {
        Check check = new Check();
        frameWithButtons(check);
        frameWithManySteps(check);
        frameRefused(check);
        restartKeepsTheProgram(check);
        restartOtherwise(check);
        dots(check);
        valuesInOrder(check);
        valuesOfNone(check);
        names(check);
        cells(check);
        nodes(check);
        counts(check);
        countsOfNone(check);
        usesOfFiveHundredTwelveCalls(check);
        check.finish();
    }

    private static void frameWithButtons(Check check) {
        check.sentence("A frame with the buttons (bits 0 .. 5 of 0 .. 63) that are down");
        DotConsole console = Check.sealed("x=btn(0)+btn(1)*2+btn(2)*4", "y=btn(3)+btn(4)*2+btn(5)*4");
        for (int buttons = 0; buttons <= 63; buttons++) {
            check.due("frame " + buttons, console.frame(buttons), 0);
            check.due("buttons 0 to 2 of " + buttons, console.value(0), buttons % 8 * ONE);
            check.due("buttons 3 to 5 of " + buttons, console.value(1), buttons / 8 * ONE);
        }
    }

    private static void frameWithManySteps(Check check) {
        check.sentence("1 if it ended at its 301st STEP, else 0.");
        // 1 + 2 * loops + 1 steps, and one for each further line.
        String[] lines = {"i=0", "while i<149", "i=i+1", "end"};
        DotConsole just = Check.sealed(lines);
        check.due("300 steps", just.frame(0), 0);
        check.due("steps", just.count(4), 300);
        check.due("300 steps again", just.frame(0), 0);
        for (String last : new String[] {"x=1", "cls 1", "poke 0,1", "pset 0,0,1"}) {
            DotConsole more = Check.withLines(lines);
            check.dueAdd(last, more, 5);
            check.due("seal", more.seal(), 0);
            check.due("301 steps", more.frame(0), 1);
            check.due("steps", more.count(4), 300);
            check.due("i", more.value(0), 149 * ONE);
            check.due("x", more.value(1), 0);
            check.due("dot", more.dot(0, 0), 0);
            check.due("cell", more.cell(0), 0);
            check.due("301 steps again", more.frame(0), 1);
        }
        for (String last : new String[] {"if 1", "while 0"}) {
            DotConsole more = Check.withLines(lines);
            check.dueAdd(last, more, 5);
            check.dueAdd("end", more, 6);
            check.due("seal", more.seal(), 0);
            check.due("301 steps with " + last, more.frame(0), 1);
        }
    }

    private static void frameRefused(Check check) {
        check.sentence("REFUSED for other numbers, and if not sealed.");
        DotConsole console = Check.withLines("x=x+1");
        for (int buttons : new int[] {0, 1, 63, 64, -1}) {
            check.due("frame " + buttons + ", not sealed", console.frame(buttons), REFUSED);
        }
        check.due("seal", console.seal(), 0);
        check.due("frame 64", console.frame(64), REFUSED);
        for (int buttons : FAR) {
            check.due("frame " + buttons, console.frame(buttons), REFUSED);
        }
        check.due("frames", console.count(3), 0);
        check.due("x", console.value(0), 0);
        check.due("frame 0", console.frame(0), 0);
        check.due("frame 63", console.frame(63), 0);
        check.due("x", console.value(0), 2 * ONE);
        DotConsole wrong = Check.withLines("if 1");
        check.due("seal", wrong.seal(), 2);
        check.due("frame, wrongly sealed", wrong.frame(0), REFUSED);
        check.due("frames", wrong.count(3), 0);
    }

    private static void restartKeepsTheProgram(Check check) {
        check.sentence("but for the program, its seal, the text and place");
        DotConsole console = Check.withLines("ab=1", "cls ab+c");
        check.dueAdd("ab=1 1", console, DotConsole.BAD);
        Check.type(console, "c=3");
        check.due("restart, not sealed", console.restart(), 0);
        dueKept(check, console, 3, 0, 5);
        check.due("add of what was typed", console.add(), 3);
        check.dueAdd("", console, DotConsole.BAD);
        check.due("seal", console.seal(), 0);
        Check.type(console, "xy");
        check.due("frame", console.frame(0), 0);
        check.due("restart, sealed", console.restart(), 0);
        check.due("lines", console.count(0), 3);
        dueKept(check, console, 2, 1, 0);
        check.due("frame", console.frame(0), 0);
        check.due("ab", console.value(0), ONE);
        check.due("c", console.value(1), 3 * ONE);
        check.due("dot", console.dot(7, 7), 1);
    }

    private static void dueKept(Check check, DotConsole console, int characters, int sealed, int place) {
        check.due("characters", console.count(1), characters);
        check.due("names", console.count(2), 2);
        check.due("sealed", console.count(5), sealed);
        check.due("place", console.place(), place);
        check.due("nodes of 2", console.nodes(2), 3);
        check.due("name 0", console.name(0, 1), 'b');
        check.due("name 1", console.name(1, 0), 'c');
    }

    private static void restartOtherwise(Check check) {
        check.sentence("As at first .. : 0.");
        check.due("restart of a new object", new DotConsole().restart(), 0);
        DotConsole console = Check.sealed("a=a+1", "b=rnd(1)", "c=btnp(2)", "cls a", "poke 0,a", "poke 31,a");
        for (int turn = 0; turn < 3; turn++) {
            for (int f = 1; f <= 4; f++) {
                check.due("frame", console.frame(4), 0);
                check.due("a", console.value(0), f * ONE);
                check.due("frames", console.count(3), f);
                check.due("c", console.value(2), f == 1 ? ONE : 0);
            }
            check.due("restart", console.restart(), 0);
            check.due("restart again", console.restart(), 0);
            check.due("a", console.value(0), 0);
            check.due("b", console.value(1), 0);
            check.due("cells", console.cell(0) | console.cell(31), 0);
            check.due("dots", console.dot(0, 0) | console.dot(15, 15), 0);
            check.due("frames", console.count(3), 0);
            check.due("steps", console.count(4), 0);
        }
        check.due("frame", console.frame(0), 0);
        check.due("b", console.value(1), (1103515245 + 12345) >>> 16);
    }

    private static void dots(Check check) {
        check.sentence("The dot 0 .. 15 at x, y 0 .. 15; REFUSED outside.");
        DotConsole console = Check.sealed("box 0,0,15,15,15", "pset 0,0,1", "pset 15,0,2", "pset 0,15,3", "pset 15,15,4");
        check.due("frame", console.frame(0), 0);
        check.due("dot 0 0", console.dot(0, 0), 1);
        check.due("dot 15 0", console.dot(15, 0), 2);
        check.due("dot 0 15", console.dot(0, 15), 3);
        check.due("dot 15 15", console.dot(15, 15), 4);
        check.due("dot 7 8", console.dot(7, 8), 15);
        for (int outside : new int[] {-1, 16, 17, 255, 256}) {
            for (int inside : new int[] {0, 1, 15}) {
                check.due("dot " + outside + " " + inside, console.dot(outside, inside), REFUSED);
                check.due("dot " + inside + " " + outside, console.dot(inside, outside), REFUSED);
            }
            check.due("dot " + outside + " " + outside, console.dot(outside, outside), REFUSED);
        }
        for (int outside : FAR) {
            check.due("dot " + outside + " 3", console.dot(outside, 3), REFUSED);
            check.due("dot 3 " + outside, console.dot(3, outside), REFUSED);
            check.due("dot " + outside + " " + outside, console.dot(outside, outside), REFUSED);
        }
        check.due("dot 16 -1", console.dot(16, -1), REFUSED);
        check.due("dot -1 1", console.dot(-1, 1), REFUSED);
    }

    private static void valuesInOrder(Check check) {
        check.sentence("The value of the k-th name (0 first, in the order in which they first came in the"
                + " lines, that before '=' before those behind it)");
        DotConsole console = Check.sealed("f=e", "d=d+f", "poke c,b", "a=1", "b=2", "c=3", "d=4", "e=5", "f=6");
        String order = "fedcba";
        check.due("frame", console.frame(0), 0);
        for (int k = 0; k < 6; k++) {
            check.due("name " + k, console.name(k, 0), order.charAt(k));
            check.due("value " + k, console.value(k), (k == 0 ? 6 : 6 - k) * ONE);
        }
        DotConsole unsealed = Check.withLines("x=7");
        check.due("no frame was run", unsealed.value(0), 0);
    }

    private static void valuesOfNone(Check check) {
        check.sentence("0 if there is none.");
        DotConsole twelve = new DotConsole();
        for (int k = 0; k < 12; k++) {
            check.dueAdd((char) ('a' + k) + "=" + (k + 1), twelve, k + 1);
        }
        check.due("seal", twelve.seal(), 0);
        check.due("frame", twelve.frame(0), 0);
        for (int k = 0; k < 12; k++) {
            check.due("value " + k, twelve.value(k), (k + 1) * ONE);
        }
        check.due("value 12", twelve.value(12), 0);
        DotConsole one = Check.sealed("x=7");
        check.due("value of no name", new DotConsole().value(0), 0);
        check.due("frame", one.frame(0), 0);
        check.due("value 0", one.value(0), 7 * ONE);
        check.due("value 1", one.value(1), 0);
        for (int k : FAR) {
            check.due("value " + k, twelve.value(k), 0);
            check.due("value " + k, one.value(k), 0);
        }
    }

    private static void names(Check check) {
        check.sentence("Character i of the k-th name; REFUSED if there is none.");
        check.due("name of no name", new DotConsole().name(0, 0), REFUSED);
        DotConsole console = Check.withLines("a=z", "abcdef=uvwxyz", "aaaaa=zzzzz");
        String[] names = {"a", "z", "abcdef", "uvwxyz", "aaaaa", "zzzzz"};
        for (int k = 0; k < names.length; k++) {
            for (int i = 0; i <= 7; i++) {
                int want = i < names[k].length() ? names[k].charAt(i) : REFUSED;
                check.due("name " + k + " " + i, console.name(k, i), want);
            }
            for (int i : FAR) {
                check.due("name " + k + " " + i, console.name(k, i), REFUSED);
            }
        }
        check.due("name 6", console.name(6, 0), REFUSED);
        for (int k : FAR) {
            check.due("name " + k, console.name(k, 0), REFUSED);
        }
        // Names of lines that were not added are none.
        check.dueAdd("b=c+", console, DotConsole.BAD);
        check.due("name 6", console.name(6, 0), REFUSED);
        check.dueAdd("b=------c", console, DotConsole.FULL);
        check.due("name 6", console.name(6, 0), REFUSED);
        check.due("name 7", console.name(7, 0), REFUSED);
        check.dueAdd("pset g|h,i|j,k|l", console, 4);
        check.due("name 11", console.name(11, 0), 'l');
        check.due("name 11 1", console.name(11, 1), REFUSED);
        check.due("name 12", console.name(12, 0), REFUSED);
        check.due("name 13", console.name(13, 0), REFUSED);
    }

    private static void cells(Check check) {
        check.sentence("The cell 0 .. 31; 0 for others.");
        DotConsole console = Check.sealed("while i<32", "poke i,i+1", "i=i+1", "end", "poke 32,9", "poke -1,9");
        check.due("frame", console.frame(0), 0);
        for (int i = 0; i < 32; i++) {
            check.due("cell " + i, console.cell(i), (i + 1) * ONE);
        }
        check.due("cell 32", console.cell(32), 0);
        check.due("cell 33", console.cell(33), 0);
        check.due("cell 63", console.cell(63), 0);
        for (int i : FAR) {
            check.due("cell " + i, console.cell(i), 0);
        }
    }

    private static void nodes(Check check) {
        check.sentence("Nodes of the line (1 first); REFUSED if there is none.");
        check.due("nodes of no line", new DotConsole().nodes(1), REFUSED);
        DotConsole console = new DotConsole();
        for (int line = 1; line <= 28; line++) {
            check.due("nodes of " + line + " before", console.nodes(line), REFUSED);
            check.dueAdd(line % 3 == 0 ? "end" : line % 3 == 1 ? "x=1" : "x=1+2", console, line);
            check.due("nodes of " + line, console.nodes(line), line % 3 == 0 ? 0 : line % 3 * 2 - 1);
        }
        check.due("nodes of 0", console.nodes(0), REFUSED);
        check.due("nodes of 29", console.nodes(29), REFUSED);
        for (int line : FAR) {
            check.due("nodes of " + line, console.nodes(line), REFUSED);
        }
        check.due("nodes of 1", console.nodes(1), 1);
        check.due("nodes of 28", console.nodes(28), 1);
        DotConsole most = Check.withLines("line 1+2+3,4+5+6,7+8,-9,1");
        check.due("the most nodes", most.nodes(1), 16);
    }

    private static void dueCounts(Check check, DotConsole console, int... want) {
        for (int what = 0; what < want.length; what++) {
            check.due("count " + what, console.count(what), want[what]);
        }
    }

    private static void counts(Check check) {
        check.sentence("Lines (0), characters of the text (1), names (2), frames run (3), steps begun in the last"
                + " frame (4; 0 before the first), 1 if sealed, else 0 (5)");
        DotConsole console = new DotConsole();
        dueCounts(check, console, 0, 0, 0, 0, 0, 0);
        Check.type(console, "if !x");
        dueCounts(check, console, 0, 5, 0, 0, 0, 0);
        console.add();
        dueCounts(check, console, 1, 0, 1, 0, 0, 0);
        Check.add(console, "while 1");
        Check.add(console, "y=1");
        Check.add(console, "x=1");
        Check.add(console, "end");
        dueCounts(check, console, 5, 0, 2, 0, 0, 0);
        check.due("seal", console.seal(), 6);
        dueCounts(check, console, 5, 0, 2, 0, 0, 0);
        Check.add(console, "end");
        check.due("seal", console.seal(), 0);
        dueCounts(check, console, 6, 0, 2, 0, 0, 1);
        check.due("frame", console.frame(0), 1);
        dueCounts(check, console, 6, 0, 2, 1, 300, 1);
        check.due("frame", console.frame(0), 0);
        dueCounts(check, console, 6, 0, 2, 2, 1, 1);
        check.due("frame", console.frame(64), REFUSED);
        dueCounts(check, console, 6, 0, 2, 2, 1, 1);
        Check.type(console, " ".repeat(48));
        dueCounts(check, console, 6, 48, 2, 2, 1, 1);
        check.due("restart", console.restart(), 0);
        dueCounts(check, console, 6, 48, 2, 0, 0, 1);
    }

    private static void countsOfNone(Check check) {
        check.sentence("else REFUSED.");
        for (DotConsole console : new DotConsole[] {new DotConsole(), Check.sealed("x=1")}) {
            for (int what : new int[] {6, 7, 8, 31, 32, 64}) {
                check.due("count " + what, console.count(what), REFUSED);
            }
            for (int what : FAR) {
                check.due("count " + what, console.count(what), REFUSED);
            }
        }
    }

    private static void usesOfFiveHundredTwelveCalls(Check check) {
        check.sentence("An object is used for at most 512 calls after it has been made");
        DotConsole frames = Check.sealed("x=x+1", "y=btnp(0)");
        // 5 and 9 characters, 2 times add, and seal.
        int before = 5 + 9 + 2 + 1;
        for (int call = before + 1; call < 511; call++) {
            check.due("frame", frames.frame(1), 0);
        }
        check.due("frames", frames.count(3), 510 - before);
        check.due("x", frames.value(0), (510 - before) * ONE);
        DotConsole typed = new DotConsole();
        for (int call = 1; call <= 512; call++) {
            check.due("call " + call, call % 64 == 0 ? typed.add() : typed.feed(' '),
                    call % 64 == 0 ? DotConsole.BAD : call % 64 > 48 ? DotConsole.FULL : call % 64);
        }
    }
}
