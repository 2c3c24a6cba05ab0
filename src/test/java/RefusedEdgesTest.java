import java.util.ArrayList;
import java.util.List;
import java.util.function.Consumer;

/**
 * 'Terms': a call that answers REFUSED, FULL or BAD changes nothing. Two consoles are led the same
 * way, but for calls that one of them refuses; what they tell, then and in later frames, is the same.
 */
public final class RefusedEdgesTest {
    private static final int REFUSED = DotConsole.REFUSED;
    private static final int FULL = DotConsole.FULL;
    private static final int BAD = DotConsole.BAD;
    private static final int[] FAR = {Integer.MIN_VALUE, -65536, -1, 127, 256, 65536, Integer.MAX_VALUE};
    /** What the programs here have in common: all that a frame can change is changed. */
    private static final String[] LINES = {"a=a+rnd(9)", "b=b+btnp(1)", "poke a,@a+b", "line 0,0,a,b,a"};

    public static void main(String[] args) {
        Check check = new Check();
        check.sentence("A call that answers REFUSED, FULL or BAD changes nothing, but for add what it says.");
        whileTyping(check);
        withFullText(check);
        badLines(check);
        fullLines(check);
        withTwentyEightLines(check);
        whenSealed(check);
        betweenFrames(check);
        check.finish();
    }

    /** All that the calls tell of a console. */
    private static List<Integer> stateOf(DotConsole console) {
        List<Integer> all = new ArrayList<>();
        for (int what = 0; what <= 5; what++) {
            all.add(console.count(what));
        }
        all.add(console.place());
        for (int line = 1; line <= console.count(0); line++) {
            all.add(console.nodes(line));
        }
        for (int k = 0; k < console.count(2); k++) {
            all.add(console.name(k, 0));
            all.add(console.name(k, 1));
            all.add(console.value(k));
        }
        for (int i = 0; i < 32; i++) {
            all.add(console.cell(i));
        }
        for (int at = 0; at < 256; at++) {
            all.add(console.dot(at % 16, at / 16));
        }
        return all;
    }

    /** That a console led by both is the same behind it as one that is led without the second. */
    private static void dueSame(Check check, String what, Consumer<DotConsole> lead, Consumer<DotConsole> refused,
            Consumer<DotConsole> then) {
        DotConsole one = new DotConsole();
        DotConsole other = new DotConsole();
        lead.accept(one);
        lead.accept(other);
        refused.accept(one);
        then.accept(one);
        then.accept(other);
        check.due(what + " changed nothing", stateOf(one).equals(stateOf(other)) ? 1 : 0, 1);
    }

    private static void addAll(DotConsole console) {
        for (String line : LINES) {
            Check.add(console, line);
        }
    }

    private static void nothing(DotConsole console) { }

    private static void sealAndRun(DotConsole console) {
        console.seal();
        for (int f = 0; f < 12; f++) {
            console.frame(2);
        }
    }

    private static void refuseReads(Check check, DotConsole console) {
        for (int far : FAR) {
            check.due("dot " + far, console.dot(far, 0), REFUSED);
            check.due("dot 0 " + far, console.dot(0, far), REFUSED);
            check.due("name " + far, console.name(far, 0), REFUSED);
            check.due("name 0 " + far, console.name(0, far), REFUSED);
            check.due("nodes " + far, console.nodes(far), REFUSED);
            check.due("count " + far, console.count(far), REFUSED);
            check.due("frame " + far, console.frame(far), REFUSED);
            check.due("feed " + far, console.feed(far), REFUSED);
        }
    }

    private static void whileTyping(Check check) {
        Consumer<DotConsole> lead = console -> {
            addAll(console);
            Check.add(console, "c=1 1");
            Check.type(console, "c=");
        };
        Consumer<DotConsole> refused = console -> {
            refuseReads(check, console);
            check.due("frame, not sealed", console.frame(2), REFUSED);
        };
        dueSame(check, "calls while typing", lead, refused, RefusedEdgesTest::nothing);
        dueSame(check, "calls while typing", lead, refused, console -> {
            Check.type(console, "a");
            console.add();
            sealAndRun(console);
        });
    }

    private static void withFullText(Check check) {
        Consumer<DotConsole> lead = console -> Check.type(console, "c=12" + " ".repeat(44));
        Consumer<DotConsole> refused = console -> {
            for (int character = 32; character <= 126; character += 7) {
                check.due("feed " + character, console.feed(character), FULL);
            }
        };
        dueSame(check, "feed with 48", lead, refused, RefusedEdgesTest::nothing);
        dueSame(check, "feed with 48", lead, refused, console -> {
            console.add();
            sealAndRun(console);
        });
    }

    private static void badLines(Check check) {
        Consumer<DotConsole> refused = console -> {
            for (String text : new String[] {"", "c", "c=d+", "c=d e", "poke c,d,e", "end end", "else #"}) {
                check.dueAdd(text, console, BAD);
            }
        };
        dueSame(check, "lines that are BAD", RefusedEdgesTest::addAll, refused, console -> {
            Check.add(console, "e=c");
            sealAndRun(console);
        });
    }

    private static void fullLines(Check check) {
        Consumer<DotConsole> lead = console -> {
            addAll(console);
            Check.add(console, "c=1");
        };
        Consumer<DotConsole> refused = console -> {
            for (String text : new String[] {"c=------d", "pset c|c|c|c,d|d|d|d,--e", "c=--(d|e|f|g|h|i)",
                "line d|e|f,g|h|i,j|k,l,m"}) {
                check.dueAdd(text, console, FULL);
            }
        };
        dueSame(check, "lines that are FULL", lead, refused, console -> {
            Check.add(console, "e=d");
            sealAndRun(console);
        });
    }

    private static void withTwentyEightLines(Check check) {
        Consumer<DotConsole> lead = console -> {
            for (int i = 0; i < 14; i++) {
                Check.add(console, "if a");
                Check.add(console, "end");
            }
        };
        Consumer<DotConsole> refused = console -> {
            for (String text : new String[] {"end", "if b", "c=1"}) {
                check.dueAdd(text, console, FULL);
            }
        };
        dueSame(check, "a 29th line", lead, refused, RefusedEdgesTest::sealAndRun);
    }

    private static void whenSealed(Check check) {
        Consumer<DotConsole> lead = console -> {
            addAll(console);
            check.due("seal", console.seal(), 0);
        };
        Consumer<DotConsole> refused = console -> {
            check.due("seal", console.seal(), REFUSED);
            for (String text : new String[] {"c=1", "a=1", "", "end"}) {
                check.dueAdd(text, console, REFUSED);
            }
        };
        dueSame(check, "calls when sealed", lead, refused, RefusedEdgesTest::nothing);
        dueSame(check, "calls when sealed", lead, refused, RefusedEdgesTest::sealAndRun);
    }

    private static void betweenFrames(Check check) {
        Consumer<DotConsole> lead = console -> {
            addAll(console);
            sealAndRun(console);
        };
        Consumer<DotConsole> refused = console -> {
            refuseReads(check, console);
            check.due("frame 64", console.frame(64), REFUSED);
            check.due("seal", console.seal(), REFUSED);
            check.dueAdd("a=7", console, REFUSED);
        };
        dueSame(check, "calls between frames", lead, refused, RefusedEdgesTest::nothing);
        dueSame(check, "calls between frames", lead, refused, RefusedEdgesTest::sealAndRun);
    }
}
