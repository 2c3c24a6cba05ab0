/** Promise 2: feed. */
public final class FeedTest {
    public static void main(String[] args) {
        Check check = new Check();
        takesPrintableCharactersAlone(check);
        isFullWithFortyEight(check);
        goesOnWhenSealed(check);
        check.finish();
    }

    private static void takesPrintableCharactersAlone(Check check) {
        int[] wrong = {31, 127, 0, -1, 32 + 65536, 128, 255, Integer.MIN_VALUE, Integer.MAX_VALUE};
        DotConsole console = new DotConsole();
        for (int character : wrong) {
            check.due("feed " + character, console.feed(character), DotConsole.REFUSED);
        }
        check.due("length", console.count(1), 0);
        check.due("feed 32", console.feed(32), 1);
        check.due("feed 126", console.feed(126), 2);
        check.due("feed 31", console.feed(31), DotConsole.REFUSED);
        check.due("length", console.count(1), 2);
        for (int character = 32; character <= 126; character++) {
            check.due("feed " + character, new DotConsole().feed(character), 1);
        }
    }

    private static void isFullWithFortyEight(Check check) {
        DotConsole console = new DotConsole();
        String text = "x=1" + " ".repeat(45);
        for (int i = 0; i < 48; i++) {
            check.due("feed number " + (i + 1), console.feed(text.charAt(i)), i + 1);
        }
        check.due("the 49th", console.feed('2'), DotConsole.FULL);
        check.due("a wrong 49th", console.feed(31), DotConsole.REFUSED);
        check.due("length", console.count(1), 48);
        check.due("add", console.add(), 1);
        check.due("nodes: the 49th was not appended", console.nodes(1), 1);
        check.due("feed after add", console.feed('x'), 1);
    }

    private static void goesOnWhenSealed(Check check) {
        DotConsole console = Check.sealed();
        check.due("feed when sealed", console.feed('x'), 1);
        check.due("add when sealed", console.add(), DotConsole.REFUSED);
        check.due("length behind it", console.count(1), 0);
        check.due("feed behind it", console.feed('x'), 1);
    }
}
