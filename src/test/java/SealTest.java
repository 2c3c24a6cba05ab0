/** Promise 5: seal. */
public final class SealTest {
    public static void main(String[] args) {
        Check check = new Check();
        dueSeal(check, 0);
        dueSeal(check, 0, "x=1", "cls 2");
        dueSeal(check, 0, "if 1", "end");
        dueSeal(check, 0, "if 1", "else", "end", "while 1", "end");
        dueSeal(check, 0, "if 1", "else", "if 2", "else", "end", "end");
        dueSeal(check, 0, "if 1", "if 2", "else", "end", "else", "end");
        looksAtElseAndEnd(check);
        looksAtWhatIsNotEnded(check);
        looksAtTheDepth(check);
        changesNothingIfWrong(check);
        takesFullPrograms(check);
        check.finish();
    }

    private static void dueSeal(Check check, int want, String... lines) {
        DotConsole console = Check.withLines(lines);
        String what = "seal of " + String.join("; ", lines);
        check.due(what, console.seal(), want);
        check.due(what + ": sealed", console.count(5), want == 0 ? 1 : 0);
        check.due(what + ": again", console.seal(), want == 0 ? DotConsole.REFUSED : want);
        check.due(what + ": runs", console.frame(0) == DotConsole.REFUSED ? 0 : 1, want == 0 ? 1 : 0);
    }

    private static void looksAtElseAndEnd(Check check) {
        dueSeal(check, 1, "else");
        dueSeal(check, 1, "end");
        dueSeal(check, 2, "x=1", "end");
        dueSeal(check, 3, "if 1", "end", "else");
        dueSeal(check, 3, "if 1", "end", "end");
        dueSeal(check, 2, "while 1", "else", "end");
        dueSeal(check, 3, "if 1", "else", "else", "end");
        dueSeal(check, 3, "if 1", "while 1", "else", "end", "end");
        dueSeal(check, 5, "if 1", "else", "if 2", "end", "else", "end");
        dueSeal(check, 5, "if 1", "while 2", "end", "else", "else", "end");
    }

    private static void looksAtWhatIsNotEnded(Check check) {
        dueSeal(check, 2, "if 1");
        dueSeal(check, 2, "while 1");
        dueSeal(check, 3, "if 1", "else");
        dueSeal(check, 4, "while 1", "if 1", "end");
        dueSeal(check, 2, "x=1", "end", "if 1");
    }

    private static void looksAtTheDepth(Check check) {
        dueSeal(check, 0, "if 1", "while 2", "if 3", "while 0", "end", "end", "end", "end");
        dueSeal(check, 5, "if 1", "while 2", "if 3", "while 0", "if 5", "end");
        dueSeal(check, 6, "if 1", "else", "if 2", "if 3", "if 4", "while 5");
        dueSeal(check, 0, "if 1", "if 2", "if 3", "if 4", "end", "while 0", "end", "end", "if 0",
                "end", "end", "end");
        dueSeal(check, 5, "while 1", "while 2", "while 3", "while 4", "while 5", "end", "end");
    }

    private static void changesNothingIfWrong(Check check) {
        DotConsole console = Check.withLines("if x", "y=1");
        check.due("seal", console.seal(), 3);
        check.due("sealed", console.count(5), 0);
        check.dueAdd("else", console, 3);
        check.due("seal", console.seal(), 4);
        check.dueAdd("y=2", console, 4);
        check.dueAdd("end", console, 5);
        check.due("seal", console.seal(), 0);
        check.due("sealed", console.count(5), 1);
        check.due("frame", console.frame(0), 0);
        check.due("y", console.value(1), 2 * Check.ONE);
        check.due("seal again", console.seal(), DotConsole.REFUSED);
        check.due("still sealed", console.count(5), 1);
    }

    private static void takesFullPrograms(Check check) {
        String[] lines = new String[28];
        for (int i = 0; i < 28; i += 2) {
            lines[i] = "if 1";
            lines[i + 1] = "end";
        }
        dueSeal(check, 0, lines);
        lines[27] = "if 1";
        dueSeal(check, 29, lines);
        lines[26] = "end";
        dueSeal(check, 27, lines);
    }
}
