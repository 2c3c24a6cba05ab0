/** 'Terms', sentence by sentence: what statements do, steps, frames, and calls that are refused. */
public final class DoingEdgesTest {
    private static final int ONE = Check.ONE;
    private static final String TINY = Check.TINY_TEXT;
    private static final String MOST = Check.GREATEST_TEXT;
    private static final String DEEP = Check.LEAST_TEXT;

    public static void main(String[] args) {
        Check check = new Check();
        clears(check);
        setsDots(check);
        longLines(check);
        linesOfOneDot(check);
        roundedLines(check);
        boxes(check);
        pokes(check);
        floorsPlaces(check);
        colours(check);
        leavesOutDots(check);
        worksOutFirst(check);
        choosesByIf(check);
        loopsByWhile(check);
        countsSteps(check);
        endsAtOnce(check);
        keepsWhatWasDone(check);
        doesLinesInOrder(check);
        startsAsAtFirst(check);
        check.finish();
    }

    private static void clears(Check check) {
        check.sentence("cls c: all dots become COLOUR");
        check.dueScreen("cls 7", Check.allRows("7".repeat(16)));
        DotConsole console = Check.sealed("cls 5", "pset 3,3,1", "cls 0");
        check.due("frame", console.frame(0), 0);
        check.dueDots("cls 5; pset; cls 0", console);
    }

    private static void setsDots(Check check) {
        check.sentence("pset x y c: the dot");
        check.dueScreen("pset 0,0,1", "1");
        check.dueScreen("pset 15,0,2", "...............2");
        check.dueScreen("pset 0,1,3", "", "3");
        String[] last = new String[16];
        java.util.Arrays.fill(last, "");
        last[15] = "4";
        check.dueScreen("pset 0,15,4", last);
        last[15] = "...............5";
        check.dueScreen("pset 15,15,5", last);
    }

    private static void longLines(Check check) {
        check.sentence("line x y v w c: with n the greater of |v - x| and |w - y|: nothing if n is above 40");
        String row = "4".repeat(16);
        check.dueScreen("line 0,0,40,0,4", row);
        check.dueScreen("line 0,0,41,0,4");
        check.dueScreen("line 40,0,0,0,4", row);
        check.dueScreen("line 41,0,0,0,4");
        check.dueScreen("line -20,0,20,0,4", row);
        check.dueScreen("line -20,0,21,0,4");
        check.dueScreen("line 0,0,0,40,4", Check.allRows("4"));
        check.dueScreen("line 0,0,0,41,4");
        check.dueScreen("line 0,40,0,0,4", Check.allRows("4"));
        check.dueScreen("line 0,41,0,0,4");
        check.dueScreen("line 0,0,41,40,4");
        check.dueScreen("line 0,0,40,41,4");
        check.dueScreen("line 0,0," + MOST + "," + MOST + ",4");
        check.dueScreen("line " + DEEP + ",0," + MOST + ",0,4");
        check.dueScreen("line 0," + MOST + ",0," + DEEP + ",4");
        // The distances are those of the floored numbers.
        check.dueScreen("line 0,0,40.9999,0,4", row);
        check.dueScreen("line 0.9999,0,40,0,4", row);
        check.dueScreen("line -" + TINY + ",0,40,0,4");
        String[] diagonal = new String[16];
        for (int i = 0; i < 16; i++) {
            diagonal[i] = ".".repeat(i) + "4";
        }
        check.dueScreen("line 0,0,40,40,4", diagonal);
    }

    private static void linesOfOneDot(Check check) {
        check.sentence("R(m) being the floor of m / n + 1 / 2 (0 for n = 0)");
        check.dueScreen("line 1,1,1,1,4", "", ".4");
        check.dueScreen("line 1.9999,1,1,1.5,4", "", ".4");
        check.dueScreen("line 0,0,0,0,4", "4");
        check.dueScreen("line -1,-1,-1,-1,4");
        check.dueScreen("line 16,0,16,0,4");
    }

    private static void roundedLines(Check check) {
        check.sentence("else for i = 0 .. n the dot x + R(i * (v - x)), y + R(i * (w - y))");
        check.dueScreen("line 0,0,1,0,4", "44");
        check.dueScreen("line 1,0,0,0,4", "44");
        check.dueScreen("line 0,0,0,1,4", "4", "4");
        // Halves go up to the greater number, whichever way the line runs.
        check.dueScreen("line 0,0,2,1,4", "4", ".44");
        check.dueScreen("line 2,1,0,0,4", "4", ".44");
        check.dueScreen("line 0,1,2,0,4", "..4", "44");
        check.dueScreen("line 2,0,0,1,4", "..4", "44");
        check.dueScreen("line 0,0,1,2,4", "4", ".4", ".4");
        check.dueScreen("line 1,2,0,0,4", "4", ".4", ".4");
        check.dueScreen("line 1,0,0,2,4", ".4", ".4", "4");
        check.dueScreen("line 0,2,1,0,4", ".4", ".4", "4");
        check.dueScreen("line 0,0,4,1,4", "44", "..444");
        check.dueScreen("line 4,0,0,1,4", "...44", "444");
        check.dueScreen("line 0,0,3,1,4", "44", "..44");
        check.dueScreen("line 0,0,5,2,4", "44", "..44", "....44");
        check.dueScreen("line -2,-1,2,1,4", "4", ".44");
    }

    private static void boxes(Check check) {
        check.sentence("box x y v w c: all dots with x from the lesser to the greater of x, v and y of y, w");
        for (String corners : new String[] {"1,1,3,2", "3,2,1,1", "3,1,1,2", "1,2,3,1"}) {
            check.dueScreen("box " + corners + ",6", "", ".666", ".666");
        }
        check.dueScreen("box 2,1,2,1,6", "", "..6");
        check.dueScreen("box 0,0,15,15,6", Check.allRows("6".repeat(16)));
        check.dueScreen("box 0,2,15,2,6", "", "", "6".repeat(16));
        check.dueScreen("box 2,0,2,15,6", Check.allRows("..6"));
        check.dueScreen("box " + DEEP + ",0," + MOST + ",0,6", "6".repeat(16));
        check.dueScreen("box 0," + MOST + ",0," + DEEP + ",6", Check.allRows("6"));
    }

    private static void pokes(Check check) {
        check.sentence("poke x y: the CELL FLOOR x becomes y (none of 0 .. 31: nothing).");
        String[] places = {"0", "0.9999", "31", "32-" + TINY};
        int[] cells = {0, 0, 31, 31};
        for (int i = 0; i < places.length; i++) {
            dueCells(check, "poke " + places[i] + ",7", cells[i], 7 * ONE);
        }
        for (String none : new String[] {"32", "33", "64", "256", "-1", "-" + TINY, "-32", MOST, DEEP}) {
            dueCells(check, "poke " + none + ",7", -1, 0);
        }
        dueCells(check, "poke 5,-1.5", 5, -ONE - ONE / 2);
        dueCells(check, "poke 5," + TINY, 5, 1);
        dueCells(check, "poke 5," + DEEP, 5, Check.LEAST);
    }

    /** That the statement makes one cell the number and leaves all others 0. */
    private static void dueCells(Check check, String statement, int changed, int number) {
        DotConsole console = Check.sealed(statement);
        check.due("frame", console.frame(0), 0);
        for (int i = 0; i < 32; i++) {
            check.due(statement + ": cell " + i, console.cell(i), i == changed ? number : 0);
        }
    }

    private static void floorsPlaces(Check check) {
        check.sentence("Numbers for places are FLOORED first");
        check.dueScreen("pset 1.9999,2.9999,6", "", "", ".6");
        check.dueScreen("pset -" + TINY + ",0,6");
        check.dueScreen("pset 0,-" + TINY + ",6");
        check.dueScreen("pset 16-" + TINY + ",0,6", "...............6");
        check.dueScreen("box 1.9999,0.5,2.0001,1.9999,6", ".66", ".66");
        check.dueScreen("box -" + TINY + ",-0.5,-1,-1,6");
        check.dueScreen("line 0.9999,0.9999,2.5,2.1,6", "6", ".6", "..6");
        check.dueScreen("line -0.5,0,1,0,6", "66");
    }

    private static void colours(Check check) {
        check.sentence("COLOUR is the lowest four bits of FLOOR c");
        String[] colours = {"0", "1", "15", "15.9999", "16-" + TINY, "16", "17", "31", "32", "-1", "-" + TINY,
            "-16", "-17", MOST, DEEP};
        int[] want = {0, 1, 15, 15, 15, 0, 1, 15, 0, 15, 15, 0, 15, 15, 0};
        String[] draws = {"cls ", "pset 3,3,", "line 3,3,3,3,", "box 3,3,3,3,"};
        for (int i = 0; i < colours.length; i++) {
            for (String draw : draws) {
                DotConsole console = Check.sealed("cls 8", draw + colours[i]);
                check.due("frame", console.frame(0), 0);
                check.due(draw + colours[i], console.dot(3, 3), want[i]);
            }
        }
    }

    private static void leavesOutDots(Check check) {
        check.sentence("dots outside of 0 .. 15 are left out");
        for (String at : new String[] {"16", "-1", "17", "-16", "32", MOST, DEEP}) {
            check.dueScreen("pset " + at + ",0,6");
            check.dueScreen("pset 0," + at + ",6");
            check.dueScreen("pset " + at + "," + at + ",6");
        }
        check.dueScreen("line -1,0,1,0,6", "66");
        check.dueScreen("line 14,0,17,0,6", "..............66");
        check.dueScreen("line 0,-1,0,1,6", "6", "6");
        check.dueScreen("line -3,-3,2,2,6", "6", ".6", "..6");
        check.dueScreen("line 1,-1,-1,1,6", "6");
        check.dueScreen("line 0,16,15,16,6");
        check.dueScreen("line -1,0,-1,15,6");
        check.dueScreen("box -5,-5,0,1,6", "6", "6");
        check.dueScreen("box 15,0,16,0,6", "...............6");
        check.dueScreen("box -5,0,-1,15,6");
        check.dueScreen("box 16,0,20,15,6");
        check.dueScreen("box 0,-5,15,-1,6");
        check.dueScreen("box 0,16,15,20,6");
        check.dueScreen("box -1,-1,16,16,6", Check.allRows("6".repeat(16)));
    }

    private static void worksOutFirst(Check check) {
        check.sentence("All values are worked out before anything is drawn or stored.");
        check.dueScreen("cls pget(15,15)+1", Check.allRows("1".repeat(16)));
        check.dueScreen("box 0,0,15,15,pget(15,15)+1", Check.allRows("1".repeat(16)));
        check.dueScreen("line 0,0,15,0,pget(0,0)+1", "1".repeat(16));
        DotConsole dots = Check.sealed("pset 0,0,3", "pset pget(0,0),0,pget(0,0)+1", "pset 0,0,pget(0,0)+2");
        check.due("frame", dots.frame(0), 0);
        check.dueDots("pset of pget", dots, "5..4");
        DotConsole cells = Check.sealed("poke 0,3", "poke @0,@0+1", "poke 0,@0+@3", "x=x+1", "x=x+x");
        check.due("frame", cells.frame(0), 0);
        check.due("cell 3", cells.cell(3), 4 * ONE);
        check.due("cell 0", cells.cell(0), 7 * ONE);
        check.due("x", cells.value(0), 2 * ONE);
    }

    private static void dueValues(Check check, DotConsole console, int... want) {
        for (int k = 0; k < want.length; k++) {
            check.due("value " + k, console.value(k), want[k] * ONE);
        }
    }

    private static void choosesByIf(Check check) {
        check.sentence("if: with TRUE the lines up to else or end, otherwise those from else (if there is"
                + " one) to end.");
        DotConsole both = Check.sealed("if t", "x=x+1", "else", "y=y+1", "end", "t=1");
        both.frame(0);
        dueValues(check, both, 1, 0, 1);
        both.frame(0);
        dueValues(check, both, 1, 1, 1);
        DotConsole bare = Check.sealed("if t", "x=x+1", "end", "t=1");
        bare.frame(0);
        dueValues(check, bare, 1, 0);
        bare.frame(0);
        dueValues(check, bare, 1, 1);
        DotConsole empty = Check.sealed("if 1", "else", "x=1", "end", "if 0", "y=1", "else", "end", "if 1", "end");
        check.due("frame", empty.frame(0), 0);
        dueValues(check, empty, 0, 0);
        DotConsole deep = Check.sealed("if 1", "if 0", "a=1", "else", "b=1", "end", "c=1", "else", "if 1", "d=1",
                "else", "e=1", "end", "f=1", "end", "g=1");
        check.due("frame", deep.frame(0), 0);
        dueValues(check, deep, 0, 1, 1, 0, 0, 0, 1);
    }

    private static void loopsByWhile(Check check) {
        check.sentence("while: as long as E is TRUE.");
        DotConsole never = Check.sealed("while 0", "x=1", "end", "y=1");
        check.due("frame", never.frame(0), 0);
        dueValues(check, never, 0, 1);
        DotConsole once = Check.sealed("while !x", "x=1", "y=y+1", "end");
        check.due("frame", once.frame(0), 0);
        dueValues(check, once, 1, 1);
        check.due("frame", once.frame(0), 0);
        dueValues(check, once, 1, 1);
        DotConsole often = Check.sealed("while i<5", "i=i+1", "j=0", "while j<i", "j=j+1", "n=n+1", "end", "end");
        check.due("frame", often.frame(0), 0);
        dueValues(check, often, 5, 5, 15);
        // E is worked out once more than the lines are done.
        DotConsole drawn = Check.sealed("while rnd(1)>0.5", "end", "x=rnd(1)");
        int seed = 1;
        int rounds = 0;
        do {
            seed = seed * 1103515245 + 12345;
            rounds++;
        } while (seed >>> 16 > 32768);
        check.due("frame", drawn.frame(0), 0);
        check.due("steps", drawn.count(4), rounds + 1);
        check.due("x", drawn.value(0), (seed * 1103515245 + 12345) >>> 16);
    }

    private static void dueSteps(Check check, int want, String... lines) {
        DotConsole console = Check.sealed(lines);
        check.due("frame", console.frame(0), 0);
        check.due("steps of " + String.join("; ", lines), console.count(4), want);
    }

    private static void countsSteps(Check check) {
        check.sentence("Each statement that is begun counts as a STEP, if and while for each time that their"
                + " E is worked out, but not else and end.");
        dueSteps(check, 0);
        for (String line : new String[] {"cls 1", "pset 1,1,1", "line 0,0,41,0,1", "box 1,1,1,1,1", "poke 99,1",
            "x=1"}) {
            dueSteps(check, 1, line);
        }
        dueSteps(check, 1, "if 1", "end");
        dueSteps(check, 1, "if 0", "end");
        dueSteps(check, 1, "if 0", "else", "end");
        dueSteps(check, 2, "if 1", "x=1", "else", "x=1", "x=2", "end");
        dueSteps(check, 3, "if 0", "x=1", "else", "x=1", "x=2", "end");
        dueSteps(check, 1, "while 0", "x=1", "end");
        dueSteps(check, 8, "while i<3", "i=i+1", "end", "i=0");
        dueSteps(check, 3, "while !x", "x=1", "end");
        dueSteps(check, 9, "while x<2", "if x", "else", "y=1", "end", "x=x+1", "end", "x=0");
    }

    /** Lines that make a frame of this many steps, 5 or more; m is the value of the first name. */
    private static DotConsole ofSteps(int steps) {
        // 2 * loops + 2 steps, one more for a last line if the number is odd.
        int loops = (steps - 2) / 2;
        DotConsole console = Check.withLines("m=0", "while m<" + loops, "m=m+1", "end");
        if (steps % 2 == 1) {
            Check.add(console, "last=1");
        }
        console.seal();
        return console;
    }

    private static void endsAtOnce(Check check) {
        check.sentence("When the 301st STEP of a frame is to begin, the frame ends at once.");
        for (int steps : new int[] {5, 6, 298, 299, 300}) {
            DotConsole console = ofSteps(steps);
            check.due("frame of " + steps, console.frame(0), 0);
            check.due("steps", console.count(4), steps);
        }
        for (int steps : new int[] {301, 302, 400, 2000}) {
            DotConsole console = ofSteps(steps);
            check.due("frame of " + steps, console.frame(0), 1);
            check.due("steps", console.count(4), 300);
        }
        DotConsole last = ofSteps(301);
        check.due("frame of 301", last.frame(0), 1);
        check.due("the 301st is not done", last.value(1), 0);
        // else and end are no steps, so that they may follow the 300th.
        DotConsole marks = Check.sealed("while m<149", "m=m+1", "end", "if 1", "else", "end", "m=0");
        check.due("frame", marks.frame(0), 1);
        check.due("m", marks.value(0), 149 * ONE);
        DotConsole trailing = Check.sealed("while m<149", "m=m+1", "end", "if 1", "else", "x=1", "end");
        check.due("300 steps and marks", trailing.frame(0), 0);
        check.due("steps", trailing.count(4), 300);
        for (String[] lines : new String[][] {{"while 1", "end"}, {"while 1", "if 0", "else", "end", "end"},
            {"while 1", "while 0", "end", "end"}}) {
            DotConsole endless = Check.sealed(lines);
            check.due("endless", endless.frame(0), 1);
            check.due("steps", endless.count(4), 300);
        }
        // rnd in the while of the 301st step is not worked out.
        DotConsole drawn = Check.sealed("if a", "x=rnd(1)", "else", "a=1", "while 1|rnd(1)", "end", "end");
        check.due("frame", drawn.frame(0), 1);
        check.due("frame", drawn.frame(0), 0);
        int seed = 1;
        for (int i = 0; i < 298 + 1; i++) {
            seed = seed * 1103515245 + 12345;
        }
        check.due("seed", drawn.value(1), seed >>> 16);
    }

    private static void keepsWhatWasDone(Check check) {
        check.sentence("What was done stays.");
        DotConsole console = Check.sealed("x=x+1", "pset x,0,x", "poke x,x", "while 1", "n=n+1", "end", "x=0");
        for (int turn = 1; turn <= 3; turn++) {
            check.due("frame", console.frame(0), 1);
            check.due("x", console.value(0), turn * ONE);
            // The steps behind the first three are a while and n=n+1 in turn.
            check.due("n", console.value(1), turn * 148 * ONE);
            check.due("dot", console.dot(turn, 0), turn);
            check.due("cell", console.cell(turn), turn * ONE);
            check.due("frames", console.count(3), turn);
        }
        check.due("first dot", console.dot(1, 0), 1);
        check.due("first cell", console.cell(1), ONE);
    }

    private static void doesLinesInOrder(Check check) {
        check.sentence("A FRAME does all lines in order.");
        DotConsole none = Check.sealed();
        check.due("frame of no lines", none.frame(63), 0);
        check.due("frames", none.count(3), 1);
        DotConsole full = new DotConsole();
        for (int i = 1; i <= 28; i++) {
            Check.add(full, "x=x*2%9+" + i);
        }
        check.due("seal", full.seal(), 0);
        int x = 0;
        for (int turn = 0; turn < 3; turn++) {
            check.due("frame", full.frame(0), 0);
            for (int i = 1; i <= 28; i++) {
                x = x * 2 % 9 + i;
            }
            check.due("x", full.value(0), x * ONE);
            check.due("steps", full.count(4), 28);
        }
    }

    private static void dueAsAtFirst(Check check, DotConsole console) {
        dueValues(check, console, 0, 0, 0);
        for (int i = 0; i < 32; i++) {
            check.due("cell " + i, console.cell(i), 0);
        }
        check.due("frames", console.count(3), 0);
        check.due("steps", console.count(4), 0);
        check.dueDots("at first", console);
    }

    private static void startsAsAtFirst(Check check) {
        check.sentence("At first, and after restart: all names, cells and dots 0, SEED 1, no button was down,"
                + " no frame was run.");
        String[] lines = {"a=a+rnd(1)", "b=b+btnp(5)", "c=c+@31+pget(0,0)", "cls 9", "poke 31,1"};
        DotConsole fresh = Check.sealed(lines);
        dueAsAtFirst(check, fresh);
        DotConsole again = Check.sealed(lines);
        again.frame(32);
        again.frame(32);
        check.due("restart", again.restart(), 0);
        dueAsAtFirst(check, again);
        int first = (1103515245 + 12345) >>> 16;
        for (DotConsole console : new DotConsole[] {fresh, again}) {
            check.due("frame", console.frame(32), 0);
            check.due("a", console.value(0), first);
            check.due("b", console.value(1), ONE);
            check.due("c", console.value(2), 0);
            check.due("frames", console.count(3), 1);
        }
    }
}
