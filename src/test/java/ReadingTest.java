/** Promises 9 to 13: value, name, cell, nodes and count. */
public final class ReadingTest {
    private static final int[] FAR = {-1, Integer.MIN_VALUE, Integer.MAX_VALUE, 1 << 16};

    public static void main(String[] args) {
        Check check = new Check();
        namesAndValues(check);
        allTwelveNames(check);
        cells(check);
        nodes(check);
        counts(check);
        check.finish();
    }

    private static void namesAndValues(Check check) {
        DotConsole console = Check.withLines("zz=abcdef+b", "pset b,cc,zz", "abcdef=d");
        String[] names = {"zz", "abcdef", "b", "cc", "d"};
        check.due("names", console.count(2), names.length);
        for (int k = 0; k < names.length; k++) {
            for (int i = 0; i < 8; i++) {
                int want = i < names[k].length() ? names[k].charAt(i) : DotConsole.REFUSED;
                check.due("name " + k + " " + i, console.name(k, i), want);
            }
            check.due("value " + k, console.value(k), 0);
            for (int i : FAR) {
                check.due("name " + k + " " + i, console.name(k, i), DotConsole.REFUSED);
            }
        }
        check.due("name 5", console.name(5, 0), DotConsole.REFUSED);
        check.due("value 5", console.value(5), 0);
        for (int k : FAR) {
            check.due("name " + k, console.name(k, 0), DotConsole.REFUSED);
            check.due("value " + k, console.value(k), 0);
        }
    }

    private static void allTwelveNames(Check check) {
        DotConsole console = new DotConsole();
        String letters = "zyxwvutsrqpa";
        for (int k = 0; k < 12; k++) {
            check.dueAdd(letters.charAt(k) + "=" + (k + 1), console, k + 1);
        }
        check.due("seal", console.seal(), 0);
        check.due("frame", console.frame(0), 0);
        for (int k = 0; k < 12; k++) {
            check.due("value " + k, console.value(k), (k + 1) * Check.ONE);
            check.due("name " + k, console.name(k, 0), letters.charAt(k));
        }
        check.due("value 12", console.value(12), 0);
        check.due("name 12", console.name(12, 0), DotConsole.REFUSED);
    }

    private static void cells(Check check) {
        DotConsole console =
                Check.sealed("i=0", "while i<32", "poke i,i+0.5", "i=i+1", "end");
        check.due("frame", console.frame(0), 0);
        for (int i = 0; i < 32; i++) {
            check.due("cell " + i, console.cell(i), i * Check.ONE + Check.ONE / 2);
        }
        check.due("cell 32", console.cell(32), 0);
        for (int i : FAR) {
            check.due("cell " + i, console.cell(i), 0);
        }
    }

    private static void nodes(Check check) {
        String[] lines = {"x=1", "if x", "else", "end", "while !x", "end", "cls -1", "pset x,y,(z)",
            "x=((((1))))*-!@2", "x=min(1,max(2,3))", "line 1,2,3,4,5", "x=1|2&3<4", "x=x%2/2>1"};
        int[] want = {1, 1, 0, 0, 2, 0, 2, 3, 6, 5, 5, 7, 7};
        DotConsole console = Check.withLines(lines);
        for (int i = 0; i < lines.length; i++) {
            check.due("nodes of " + lines[i], console.nodes(i + 1), want[i]);
        }
        check.due("nodes of 0", console.nodes(0), DotConsole.REFUSED);
        check.due("nodes of one more", console.nodes(lines.length + 1), DotConsole.REFUSED);
        for (int line : FAR) {
            check.due("nodes of " + line, console.nodes(line), DotConsole.REFUSED);
        }
    }

    private static void counts(Check check) {
        DotConsole console = Check.withLines("a=b", "c=a", "end");
        Check.type(console, "abcd");
        dueCounts(check, console, 3, 4, 3, 0, 0, 0);
        check.due("seal", console.seal(), 3);
        dueCounts(check, console, 3, 4, 3, 0, 0, 0);
        DotConsole sealed = Check.sealed("a=b", "c=a");
        dueCounts(check, sealed, 2, 0, 3, 0, 0, 1);
        sealed.frame(0);
        sealed.frame(0);
        dueCounts(check, sealed, 2, 0, 3, 2, 2, 1);
        for (int what : new int[] {-1, 6, 7, Integer.MIN_VALUE, Integer.MAX_VALUE}) {
            check.due("count " + what, sealed.count(what), DotConsole.REFUSED);
        }
    }

    private static void dueCounts(Check check, DotConsole console, int... want) {
        for (int what = 0; what < want.length; what++) {
            check.due("count " + what, console.count(what), want[what]);
        }
    }
}
