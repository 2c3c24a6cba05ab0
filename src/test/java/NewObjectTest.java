/** Promise 1: the state of a new object. */
public final class NewObjectTest {
    public static void main(String[] args) {
        Check check = new Check();
        DotConsole console = new DotConsole();
        for (int what = 0; what <= 5; what++) {
            check.due("count " + what, console.count(what), 0);
        }
        check.due("place", console.place(), DotConsole.REFUSED);
        check.due("nodes of line 1", console.nodes(1), DotConsole.REFUSED);
        check.due("name 0", console.name(0, 0), DotConsole.REFUSED);
        check.due("value 0", console.value(0), 0);
        check.due("frame", console.frame(0), DotConsole.REFUSED);
        for (int y = 0; y < 16; y++) {
            for (int x = 0; x < 16; x++) {
                check.due("dot " + x + " " + y, console.dot(x, y), 0);
            }
        }
        for (int i = 0; i < 32; i++) {
            check.due("cell " + i, console.cell(i), 0);
        }
        seedIsOne(check);
        objectsAreApart(check);
        check.finish();
    }

    private static void seedIsOne(Check check) {
        check.dueValue("rnd(1)", (1103515245 + 12345) >>> 16);
    }

    private static void objectsAreApart(Check check) {
        DotConsole one = Check.sealed("a=1", "cls 7", "poke 0,1");
        DotConsole two = new DotConsole();
        check.due("frame of one", one.frame(1), 0);
        check.due("lines of two", two.count(0), 0);
        check.due("names of two", two.count(2), 0);
        check.due("dot of two", two.dot(0, 0), 0);
        check.due("cell of two", two.cell(0), 0);
    }
}
