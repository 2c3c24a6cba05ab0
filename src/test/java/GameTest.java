/** The sections before and behind the promises: 'What it is' and 'Not promised', with a whole small game. */
public final class GameTest {
    private static final int ONE = Check.ONE;
    /** Counts in cell b how often button b was pressed, and draws a dot of colour b + 1 at that height. */
    private static final String[] PRESSES = {"b=0", "while b<6", "if btnp(b)", "poke b,@b+1", "end",
        "pset b,@b,b+1", "b=b+1", "end", "n=n+1"};
    private static final int[] BUTTONS = {0, 63, 0, 21, 42, 21, 0, 32};
    /** The presses of each button after so many frames of BUTTONS. */
    private static final int[][] PRESSED = {{0, 0, 0, 0, 0, 0}, {0, 0, 0, 0, 0, 0}, {1, 1, 1, 1, 1, 1},
        {1, 1, 1, 1, 1, 1}, {2, 1, 2, 1, 2, 1}, {2, 2, 2, 2, 2, 2}, {3, 2, 3, 2, 3, 2}, {3, 2, 3, 2, 3, 2},
        {3, 2, 3, 2, 3, 3}};
    private static final String[] LAST_ROWS = {"123456", "123456", "123456", "1.3.56"};

    public static void main(String[] args) {
        Check check = new Check();
        runsOnceAFrame(check);
        drawsAndStays(check);
        readingChangesNothing(check);
        check.finish();
    }

    private static DotConsole afterFrames(Check check, int frames) {
        DotConsole console = Check.sealed(PRESSES);
        for (int i = 0; i < frames; i++) {
            check.due("frame " + (i + 1), console.frame(BUTTONS[i]), 0);
        }
        return console;
    }

    private static void runsOnceAFrame(Check check) {
        check.sentence("run once a frame, .. reads six buttons and keeps its names and memory from frame to frame");
        for (int frames = 0; frames <= BUTTONS.length; frames++) {
            DotConsole console = afterFrames(check, frames);
            check.due("frames", console.count(3), frames);
            check.due("b", console.value(0), frames == 0 ? 0 : 6 * ONE);
            check.due("n", console.value(1), frames * ONE);
            for (int b = 0; b < 6; b++) {
                String what = "after " + frames + " frames, presses of button " + b;
                check.due(what, console.cell(b), PRESSED[frames][b] * ONE);
            }
            int presses = 0;
            for (int b = 0; b < 6 && frames > 0; b++) {
                presses += PRESSED[frames][b] - PRESSED[frames - 1][b];
            }
            // b, n, 7 times while, and 6 times if, pset and b; poke for each press.
            check.due("steps", console.count(4), frames == 0 ? 0 : 1 + 1 + 7 + 18 + presses);
        }
    }

    private static void drawsAndStays(Check check) {
        check.sentence("draws on a screen of 16 by 16 dots");
        check.dueDots("no frame", afterFrames(check, 0));
        check.dueDots("one frame", afterFrames(check, 1), "123456");
        check.dueDots("two frames", afterFrames(check, 2), "123456", "123456");
        check.dueDots("five frames", afterFrames(check, 5), "123456", "123456", "123456");
        check.dueDots("all frames", afterFrames(check, BUTTONS.length), LAST_ROWS);
    }

    private static void readingChangesNothing(Check check) {
        check.sentence("Nothing is promised beyond the answers and state changes described above");
        DotConsole asked = Check.sealed(PRESSES);
        for (int i = 0; i < BUTTONS.length; i++) {
            askAll(asked, i);
            check.due("frame " + (i + 1), asked.frame(BUTTONS[i]), 0);
        }
        check.dueDots("all frames, with calls between", asked, LAST_ROWS);
        check.due("frames", asked.count(3), BUTTONS.length);
        check.due("n", asked.value(1), BUTTONS.length * ONE);
        check.due("lines", asked.count(0), PRESSES.length);
    }

    private static void askAll(DotConsole console, int k) {
        console.place();
        console.dot(k, k);
        console.dot(-1, 16);
        console.value(k);
        console.name(k, 0);
        console.cell(k);
        console.cell(32);
        console.nodes(k);
        console.count(k);
    }
}
