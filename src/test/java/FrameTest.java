/** Promise 6: frame, with the order of the lines and the steps. */
public final class FrameTest {
    public static void main(String[] args) {
        Check check = new Check();
        refusesOtherButtonsAndUnsealed(check);
        choosesByIf(check);
        loopsByWhile(check);
        countsSteps(check);
        endsAtTheStepTooMany(check);
        keepsWhatWasDone(check);
        check.finish();
    }

    private static void refusesOtherButtonsAndUnsealed(Check check) {
        DotConsole console = Check.withLines("x=x+1");
        check.due("frame, not sealed", console.frame(0), DotConsole.REFUSED);
        check.due("seal", console.seal(), 0);
        for (int buttons : new int[] {-1, 64, 65, Integer.MIN_VALUE, Integer.MAX_VALUE}) {
            check.due("frame " + buttons, console.frame(buttons), DotConsole.REFUSED);
        }
        check.due("frames", console.count(3), 0);
        check.due("x", console.value(0), 0);
        check.due("frame 0", console.frame(0), 0);
        check.due("frame 63", console.frame(63), 0);
        check.due("frames", console.count(3), 2);
        check.due("x", console.value(0), 2 * Check.ONE);
        DotConsole empty = Check.sealed();
        check.due("frame of nothing", empty.frame(0), 0);
        check.due("its steps", empty.count(4), 0);
        check.due("its frames", empty.count(3), 1);
    }

    private static void choosesByIf(Check check) {
        String[] tests = {"1", "0.0001", "-1", "0", "1<2", "2<1", "!1"};
        int[] want = {1, 1, 1, 2, 1, 2, 2};
        for (int i = 0; i < tests.length; i++) {
            DotConsole console =
                    Check.sealed("if " + tests[i], "x=x+1", "else", "x=x+2", "end", "y=3");
            check.due("frame", console.frame(0), 0);
            check.due("if " + tests[i], console.value(0), want[i] * Check.ONE);
            check.due("behind it", console.value(1), 3 * Check.ONE);
            check.due("steps", console.count(4), 3);
        }
        DotConsole bare = Check.sealed("if x", "y=y+1", "end", "x=1");
        bare.frame(0);
        check.due("if without else, false", bare.value(1), 0);
        bare.frame(0);
        check.due("if without else, true", bare.value(1), Check.ONE);
        DotConsole nested = Check.sealed("if a", "if b", "x=1", "else", "x=2", "end", "else",
                "if b", "x=3", "else", "x=4", "end", "end", "a=1-a", "if a", "b=1-b", "end");
        int[] path = {4, 1, 3, 2, 4};
        for (int want1 : path) {
            check.due("frame", nested.frame(0), 0);
            check.due("nested", nested.value(2), want1 * Check.ONE);
        }
    }

    private static void loopsByWhile(Check check) {
        DotConsole console = Check.sealed("i=0", "while i<3", "j=0", "while j<4", "if i=j", "e=e+1",
                "else", "n=n+1", "end", "j=j+1", "end", "i=i+1", "end", "z=1");
        check.due("frame", console.frame(0), 0);
        check.due("i", console.value(0), 3 * Check.ONE);
        check.due("j", console.value(1), 4 * Check.ONE);
        check.due("e", console.value(2), 3 * Check.ONE);
        check.due("n", console.value(3), 9 * Check.ONE);
        check.due("z", console.value(4), Check.ONE);
        check.due("steps", console.count(4), 1 + 4 + 3 + 15 + 12 * 3 + 3 + 1);
        DotConsole never = Check.sealed("while 0", "x=1", "end", "y=1");
        check.due("frame", never.frame(0), 0);
        check.due("x", never.value(0), 0);
        check.due("y", never.value(1), Check.ONE);
        check.due("steps", never.count(4), 2);
    }

    private static void countsSteps(Check check) {
        DotConsole console = Check.sealed("if 1", "else", "end", "if 0", "end", "while 0", "end",
                "cls 1", "pset 1,1,1", "line 1,1,1,1,1", "box 1,1,1,1,1", "poke 1,1", "x=1");
        check.due("frame", console.frame(0), 0);
        check.due("steps", console.count(4), 9);
        check.due("frames", console.count(3), 1);
        check.due("wrong frame", console.frame(64), DotConsole.REFUSED);
        check.due("steps", console.count(4), 9);
    }

    /** A frame of 1 + 2 * loops + 1 + more steps. */
    private static DotConsole looping(int loops, int more) {
        DotConsole console = Check.withLines("i=0", "while i<" + loops, "i=i+1", "end");
        for (int i = 0; i < more; i++) {
            Check.add(console, "m=m+1");
        }
        Check.add(console, "while 0");
        Check.add(console, "end");
        console.seal();
        return console;
    }

    private static void endsAtTheStepTooMany(Check check) {
        DotConsole less = looping(148, 0);
        check.due("299 steps", less.frame(0), 0);
        check.due("steps", less.count(4), 299);
        DotConsole just = looping(148, 1);
        check.due("300 steps", just.frame(0), 0);
        check.due("steps", just.count(4), 300);
        DotConsole more = looping(148, 2);
        check.due("301 steps", more.frame(0), 1);
        check.due("steps", more.count(4), 300);
        check.due("i", more.value(0), 148 * Check.ONE);
        check.due("m", more.value(1), 2 * Check.ONE);
        DotConsole endless = Check.sealed("while 1", "end");
        check.due("endless", endless.frame(0), 1);
        check.due("steps", endless.count(4), 300);
        check.due("frames", endless.count(3), 1);
        DotConsole marked = Check.sealed("while 1", "if 1", "else", "end", "end");
        check.due("endless", marked.frame(0), 1);
        check.due("steps", marked.count(4), 300);
    }

    private static void keepsWhatWasDone(Check check) {
        DotConsole console = Check.sealed("x=x+1", "while 1", "t=t+1", "pset t,x,5", "end", "y=1");
        check.due("first frame", console.frame(0), 1);
        check.due("x", console.value(0), Check.ONE);
        // 1 step, then loops of 3 steps: 99 whole ones and two steps of the next.
        check.due("t", console.value(1), 100 * Check.ONE);
        check.due("y", console.value(2), 0);
        check.due("dot", console.dot(1, 1), 5);
        check.due("second frame", console.frame(0), 1);
        check.due("x", console.value(0), 2 * Check.ONE);
        check.due("t", console.value(1), 200 * Check.ONE);
        check.due("frames", console.count(3), 2);
        check.due("steps", console.count(4), 300);
    }
}
