/** Promises 6 and 8: what statements draw, and dot and pget. */
public final class DrawingTest {
    public static void main(String[] args) {
        Check check = new Check();
        refusesDotsOutside(check);
        clears(check);
        sets(check);
        drawsLines(check);
        leavesLongLines(check);
        drawsBoxes(check);
        readsDots(check);
        check.finish();
    }

    private static void refusesDotsOutside(Check check) {
        DotConsole console = Check.sealed("cls 5");
        console.frame(0);
        int[][] outside = {{-1, 0}, {0, -1}, {16, 0}, {0, 16}, {16, 16}, {-1, 1}, {17, -1},
            {Integer.MIN_VALUE, 0}, {0, Integer.MAX_VALUE}, {Integer.MAX_VALUE, Integer.MAX_VALUE}};
        for (int[] at : outside) {
            check.due("dot " + at[0] + " " + at[1], console.dot(at[0], at[1]), DotConsole.REFUSED);
        }
        check.due("dot 0 0", console.dot(0, 0), 5);
        check.due("dot 15 15", console.dot(15, 15), 5);
        check.due("dot 15 0", console.dot(15, 0), 5);
    }

    private static void clears(Check check) {
        check.dueScreen("cls 15", Check.allRows("f".repeat(16)));
        check.dueScreen("cls 16");
        check.dueScreen("cls 17.9", Check.allRows("1".repeat(16)));
        check.dueScreen("cls -1", Check.allRows("f".repeat(16)));
        check.dueScreen("cls -0.5", Check.allRows("f".repeat(16)));
        check.dueScreen("cls 0.9");
    }

    private static void sets(Check check) {
        check.dueScreen("pset 2,1,9", "", "..9");
        check.dueScreen("pset 0.9,0.1,25.5", "9");
        check.dueScreen("pset 15.9999,0,3", "...............3");
        check.dueScreen("pset -0.0001,0,3");
        check.dueScreen("pset 0,-0.0001,3");
        check.dueScreen("pset 16,0,3");
        check.dueScreen("pset 0,16,3");
    }

    private static void drawsLines(Check check) {
        check.dueScreen("line 1,1,1,1,4", "", ".4");
        check.dueScreen("line 1,0,5,0,4", ".44444");
        check.dueScreen("line 5,0,1,0,4", ".44444");
        check.dueScreen("line 0,0,3,3,4", "4", ".4", "..4", "...4");
        check.dueScreen("line 3,0,0,3,4", "...4", "..4", ".4", "4");
        check.dueScreen("line 2,0,2,3.9,4", "..4", "..4", "..4", "..4");
        // Halves go up: x + 1, y + floor(1 / 2 + 1 / 2); backwards y + floor(-1 / 2 + 1 / 2).
        check.dueScreen("line 0,0,2,1,4", "4", ".44");
        check.dueScreen("line 2,1,0,0,4", "4", ".44");
        check.dueScreen("line 0,1,2,0,4", "..4", "44");
        check.dueScreen("line 2,0,0,1,4", "..4", "44");
        check.dueScreen("line 0,0,5,2,4", "44", "..44", "....44");
        check.dueScreen("line 0,0,1,2,4", "4", ".4", ".4");
        check.dueScreen("line -3,-3,2,2,4", "4", ".4", "..4");
        check.dueScreen("line -0.5,0,1,0,31", "ff");
        check.dueScreen("line 14,0,19,0,4", "..............44");
    }

    private static void leavesLongLines(Check check) {
        check.dueScreen("line 0,0,40,0,4", "4".repeat(16));
        check.dueScreen("line 0,0,40.9,0,4", "4".repeat(16));
        check.dueScreen("line 0,0,41,0,4");
        check.dueScreen("line 0,0,0,41,4");
        check.dueScreen("line 40,0,0,0,4", "4".repeat(16));
        check.dueScreen("line 41,0,0,0,4");
        check.dueScreen("line 0,-20,0,20,4", Check.allRows("4"));
        check.dueScreen("line 0,-20,0,21,4");
        check.dueScreen("line -32767-1,0,32767,0,4");
        check.dueScreen("line 0,32767,0,-32767-1,4");
    }

    private static void drawsBoxes(Check check) {
        check.dueScreen("box 1,1,3,2,6", "", ".666", ".666");
        check.dueScreen("box 3,2,1,1,6", "", ".666", ".666");
        check.dueScreen("box 3,1,1,2,6", "", ".666", ".666");
        check.dueScreen("box 1.9,2.9,1,2,22", "", "", ".6");
        check.dueScreen("box -5,-5,0,1,6", "6", "6");
        check.dueScreen("box 14,0,99,0,6", "..............66");
        check.dueScreen("box -0.1,-0.1,-5,-5,6");
        check.dueScreen("box 16,0,20,20,6");
        check.dueScreen("box 0,16,20,20,6");
        check.dueScreen("box -32767,32767,32767,-32767,6", Check.allRows("6".repeat(16)));
    }

    private static void readsDots(Check check) {
        DotConsole console = Check.sealed("pset 3,4,15", "a=pget(3,4)", "b=pget(3.9,4.9)",
                "c=pget(4,3)", "d=pget(-1,4)|pget(3,16)", "pset pget(3,4),0,pget(3,4)-1");
        check.due("frame", console.frame(0), 0);
        check.due("a", console.value(0), 15 * Check.ONE);
        check.due("b", console.value(1), 15 * Check.ONE);
        check.due("c", console.value(2), 0);
        check.due("d", console.value(3), 0);
        check.due("dot", console.dot(15, 0), 14);
        DotConsole full = Check.sealed("cls 7", "a=pget(-0.5,0)+pget(16,0)+pget(0,16)",
                "a=a+pget(0,-1)");
        check.due("frame", full.frame(0), 0);
        check.due("outside", full.value(0), 0);
    }
}
