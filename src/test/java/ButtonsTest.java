/** Promise 6 and the terms: btn and btnp. */
public final class ButtonsTest {
    public static void main(String[] args) {
        Check check = new Check();
        tellsWhatIsDown(check);
        knowsSixButtons(check);
        repeats(check);
        countsFramesThatEndedEarly(check);
        leavesOutRefusedFrames(check);
        check.finish();
    }

    private static void tellsWhatIsDown(Check check) {
        DotConsole console = Check.sealed("a=btn(0)", "b=btn(1)", "c=btn(2)", "d=btn(3)", "e=btn(4)",
                "f=btn(5.9)");
        for (int buttons = 0; buttons < 64; buttons++) {
            check.due("frame", console.frame(buttons), 0);
            for (int b = 0; b < 6; b++) {
                int want = (buttons >> b) % 2 == 1 ? Check.ONE : 0;
                check.due("button " + b + " of " + buttons, console.value(b), want);
            }
        }
    }

    private static void knowsSixButtons(Check check) {
        DotConsole console = Check.sealed("a=btn(6)|btn(-1)|btn(-0.0001)", "b=btnp(6)|btnp(-1)",
                "c=btn(32)|btn(31)|btnp(32)", "d=btnp(5.5)");
        check.due("frame", console.frame(63), 0);
        check.due("btn of others", console.value(0), 0);
        check.due("btnp of others", console.value(1), 0);
        check.due("btn and btnp of others", console.value(2), 0);
        check.due("btnp of 5.5", console.value(3), Check.ONE);
    }

    private static void repeats(Check check) {
        DotConsole console = Check.sealed("a=btnp(2)", "b=btnp(0)");
        for (int k = 1; k <= 40; k++) {
            // Button 0 is let go in frame 6, so that its row starts anew.
            int buttons = k == 6 ? 4 : 5;
            check.due("frame", console.frame(buttons), 0);
            check.due("button 2, frame " + k, console.value(0), due(k));
            check.due("button 0, frame " + k, console.value(1), due(k < 6 ? k : k - 6));
        }
        console.frame(0);
        check.due("let go", console.value(0), 0);
        console.frame(4);
        check.due("down again", console.value(0), Check.ONE);
        check.due("the other is up", console.value(1), 0);
    }

    private static int due(int k) {
        int[] struck = {1, 9, 13, 17, 21, 25, 29, 33, 37};
        for (int s : struck) {
            if (s == k) {
                return Check.ONE;
            }
        }
        return 0;
    }

    private static void countsFramesThatEndedEarly(Check check) {
        DotConsole console = Check.sealed("a=btnp(0)", "while 1", "end");
        for (int k = 1; k <= 14; k++) {
            check.due("frame", console.frame(1), 1);
            check.due("frame " + k, console.value(0), due(k));
        }
    }

    private static void leavesOutRefusedFrames(Check check) {
        DotConsole console = Check.sealed("a=btnp(0)");
        for (int k = 1; k <= 9; k++) {
            check.due("frame", console.frame(1), 0);
            check.due("frame " + k, console.value(0), due(k));
            check.due("wrong frame", console.frame(64), DotConsole.REFUSED);
        }
    }
}
