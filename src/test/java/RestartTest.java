/** Promise 7: restart. */
public final class RestartTest {
    public static void main(String[] args) {
        Check check = new Check();
        startsAnew(check);
        keepsProgramTextAndPlace(check);
        restartsWhenNotSealed(check);
        check.finish();
    }

    private static void startsAnew(Check check) {
        DotConsole console = Check.sealed("n=n+1", "r=rnd(1)", "p=btnp(0)", "cls n", "poke n,@n+1",
                "poke 31,@31+n");
        int firstRandom = (1103515245 + 12345) >>> 16;
        for (int turn = 0; turn < 3; turn++) {
            check.due("frame", console.frame(1), 0);
            check.due("n", console.value(0), Check.ONE);
            check.due("r", console.value(1), firstRandom);
            check.due("p", console.value(2), Check.ONE);
            check.due("frames", console.count(3), 1);
            check.due("frame", console.frame(1), 0);
            check.due("p", console.value(2), 0);
            check.due("restart", console.restart(), 0);
            for (int k = 0; k < 3; k++) {
                check.due("value " + k, console.value(k), 0);
            }
            for (int i = 0; i < 32; i++) {
                check.due("cell " + i, console.cell(i), 0);
            }
            for (int at = 0; at < 16; at++) {
                check.due("dot " + at, console.dot(at, 15 - at), 0);
            }
            check.due("frames", console.count(3), 0);
            check.due("steps", console.count(4), 0);
        }
    }

    private static void keepsProgramTextAndPlace(Check check) {
        DotConsole console = Check.withLines("ab=1", "cls ab");
        check.dueAdd("x=1 1", console, DotConsole.BAD);
        check.due("seal", console.seal(), 0);
        Check.type(console, "y=");
        check.due("restart", console.restart(), 0);
        check.due("lines", console.count(0), 2);
        check.due("length", console.count(1), 2);
        check.due("names", console.count(2), 1);
        check.due("sealed", console.count(5), 1);
        check.due("place", console.place(), 4);
        check.due("nodes", console.nodes(2), 1);
        check.due("name", console.name(0, 1), 'b');
        check.due("feed", console.feed('1'), 3);
    }

    private static void restartsWhenNotSealed(Check check) {
        DotConsole console = Check.withLines("x=1");
        check.due("restart", console.restart(), 0);
        check.due("sealed", console.count(5), 0);
        check.due("frame", console.frame(0), DotConsole.REFUSED);
        check.dueAdd("y=2", console, 2);
        check.due("restart of a new object", new DotConsole().restart(), 0);
    }
}
