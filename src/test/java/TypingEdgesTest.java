/** Promises 1 to 5, sentence by sentence: a new object, feed, add, place and seal. */
public final class TypingEdgesTest {
    private static final int REFUSED = DotConsole.REFUSED;
    private static final int FULL = DotConsole.FULL;
    private static final int BAD = DotConsole.BAD;
    private static final int[] FAR = {Integer.MIN_VALUE, -65536, -1, 0, 31, 127, 128, 255, 256, 65536 + 'x',
        Integer.MAX_VALUE};
    /** 16 nodes, and 17. */
    private static final String[] JUST_NODES = {"line 1+2+3,4+5+6,7+8,-9,1", "x=-(1+2+3+4)+(5+6+7+8)",
        "x=min(1+2+3,4+5+6)+abs(1+2)", "pset a|a|a|a,a|a|a|a,-a"};
    private static final String[] MANY_NODES = {"line 1+2+3,4+5+6,7+8,-9,-1", "x=-(1+2+3+4)+-(5+6+7+8)",
        "x=min(1+2+3,4+5+6)+abs(-1+2)", "pset a|a|a|a,a|a|a|a,--a"};
    /** The innermost node is inside of 5 others. */
    private static final String[] JUST_DEEP = {"-----1", "!!!!!x", "@@@@@x", "1+2+3+4+5+6", "1|1&1<1+1*1",
        "abs(flr(btn(btnp(rnd(1)))))", "min(max(pget(min(max(1,2),3),4),5),6)", "1-(1-(1-(1-(1-1))))",
        "min(1,min(1,min(1,min(1,min(1,1)))))", "-abs(1+(2*(3<(x))))"};

    public static void main(String[] args) {
        Check check = new Check();
        newObject(check);
        feed(check);
        feedWithFortyEight(check);
        addEmptiesTheText(check);
        addWhenSealed(check);
        addOfNoStatement(check);
        addOfManyNodes(check);
        addOfDeepNodes(check);
        addToTwentyEightLines(check);
        addWithManyNames(check);
        addNumbersLines(check);
        placeOfTheFirstWrongToken(check);
        placeAtTheEnd(check);
        placeOtherwise(check);
        sealOfDeepBlocks(check);
        sealOfElse(check);
        sealOfEnd(check);
        sealOfOpenBlocks(check);
        sealTellsTheFirst(check);
        sealWhenSealed(check);
        check.finish();
    }

    private static void newObject(Check check) {
        check.sentence("DotConsole(): makes an object in the state that the terms give.");
        DotConsole console = new DotConsole();
        for (int what = 0; what <= 5; what++) {
            check.due("count " + what, console.count(what), 0);
        }
        check.due("place", console.place(), REFUSED);
        check.due("value", console.value(0), 0);
        check.due("name", console.name(0, 0), REFUSED);
        check.due("nodes", console.nodes(1), REFUSED);
        check.due("frame", console.frame(0), REFUSED);
        check.dueDots("new", console);
        for (int i = 0; i < 32; i++) {
            check.due("cell " + i, console.cell(i), 0);
        }
        check.due("restart", console.restart(), 0);
        check.due("seal", console.seal(), 0);
        check.dueValue("rnd(1)", (1103515245 + 12345) >>> 16);
    }

    private static void feed(Check check) {
        check.sentence("Appends a character 32 .. 126 (else REFUSED) to the line's text: how many it has.");
        DotConsole console = new DotConsole();
        for (int character : FAR) {
            check.due("feed " + character, console.feed(character), REFUSED);
        }
        check.due("characters", console.count(1), 0);
        check.due("feed 32", console.feed(32), 1);
        check.due("feed 126", console.feed(126), 2);
        for (int character : FAR) {
            check.due("feed " + character, console.feed(character), REFUSED);
        }
        check.due("characters", console.count(1), 2);
        check.due("feed 33", console.feed(33), 3);
        for (int character = 32; character <= 126; character++) {
            check.due("feed " + character, new DotConsole().feed(character), 1);
        }
        DotConsole between = new DotConsole();
        Check.type(between, "x=");
        check.due("feed 31", between.feed(31), REFUSED);
        check.due("feed 127", between.feed(127), REFUSED);
        Check.type(between, "7");
        check.due("add", between.add(), 1);
    }

    private static void feedWithFortyEight(Check check) {
        check.sentence("FULL with 48.");
        DotConsole console = new DotConsole();
        String text = " ".repeat(44) + "x=12";
        for (int i = 0; i < 48; i++) {
            check.due("feed number " + (i + 1), console.feed(text.charAt(i)), i + 1);
        }
        for (int character : new int[] {32, '3', 'x', 126}) {
            check.due("feed " + character, console.feed(character), FULL);
        }
        check.due("characters", console.count(1), 48);
        check.due("add", console.add(), 1);
        check.due("feed after add", console.feed('x'), 1);
        check.due("characters", console.count(1), 1);
        check.due("seal", console.seal(), 0);
        check.due("frame", console.frame(0), 0);
        check.due("x", console.value(0), 12 * Check.ONE);
    }

    private static void dueEmpty(Check check, DotConsole console, String text, int answer) {
        check.dueAdd(text, console, answer);
        check.due("characters after '" + text + "'", console.count(1), 0);
        check.due("the next text starts anew", console.feed(' '), 1);
    }

    private static void addEmptiesTheText(Check check) {
        check.sentence("whatever the answer, the text is empty then");
        DotConsole console = new DotConsole();
        dueEmpty(check, console, "", BAD);
        dueEmpty(check, console, "x=", BAD);
        dueEmpty(check, console, "#", BAD);
        dueEmpty(check, console, "x=1", 1);
        dueEmpty(check, console, MANY_NODES[0], FULL);
        dueEmpty(check, console, "x=------1", FULL);
        dueEmpty(check, console, "pset a|b|c|d,e|f|g|h,i", 2);
        dueEmpty(check, console, "y=j+k", FULL);
        console.add();
        for (int i = 3; i <= 28; i++) {
            check.dueAdd("end", console, i);
        }
        dueEmpty(check, console, "end", FULL);
        DotConsole shorter = Check.withLines("abcdef=123.45", "abcd=12");
        check.dueAdd("abc=d", shorter, 3);
        check.due("the third name", shorter.name(2, 2), 'c');
        check.due("its end", shorter.name(2, 3), REFUSED);
        check.due("the fourth name's end", shorter.name(3, 1), REFUSED);
        check.due("seal", shorter.seal(), 0);
        check.due("frame", shorter.frame(0), 0);
        check.due("abcd", shorter.value(1), 12 * Check.ONE);
        DotConsole sealed = Check.sealed();
        dueEmpty(check, sealed, "x=1", REFUSED);
        dueEmpty(check, sealed, "#", REFUSED);
    }

    private static void addWhenSealed(Check check) {
        check.sentence("The program is sealed: REFUSED.");
        DotConsole console = Check.sealed("x=1");
        for (String text : new String[] {"x=2", "x=", "", "#", "x=------1", MANY_NODES[0], "else"}) {
            check.dueAdd(text, console, REFUSED);
        }
        check.due("lines", console.count(0), 1);
        check.due("names", console.count(2), 1);
        DotConsole tried = Check.withLines("if 1");
        check.due("seal", tried.seal(), 2);
        check.dueAdd("end", tried, 2);
    }

    private static void addOfNoStatement(Check check) {
        check.sentence("Then: the tokens are no statement: BAD.");
        check.dueBad("x=1 1", 4);
        // What is no statement is BAD, though it would be FULL too.
        check.dueBad(MANY_NODES[0] + "+", MANY_NODES[0].length() + 1);
        check.dueBad("x=------1)", 9);
        DotConsole lines = new DotConsole();
        for (int i = 1; i <= 28; i++) {
            check.dueAdd("end", lines, i);
        }
        check.dueAdd("end 1", lines, BAD);
        check.due("place", lines.place(), 4);
        DotConsole names = Check.withLines("pset a|b|c|d,e|f|g|h,i", "j=k+m");
        check.dueAdd("n=o+", names, BAD);
        check.due("place", names.place(), 4);
        check.due("names", names.count(2), 12);
        check.due("lines", names.count(0), 2);
    }

    private static void addOfManyNodes(Check check) {
        check.sentence("More than 16 nodes, .. FULL.");
        for (String text : JUST_NODES) {
            check.dueGood(text, 16);
        }
        for (String text : MANY_NODES) {
            check.dueFull(text);
        }
        check.dueFull("x=1" + "+1".repeat(22));
        check.dueGood("x=((((((-(1+2+3+4)+(5+6+7+8)))))))", 16);
        DotConsole console = new DotConsole();
        check.dueAdd(MANY_NODES[0], console, FULL);
        check.due("nodes", console.nodes(1), REFUSED);
        check.dueAdd(JUST_NODES[0], console, 1);
    }

    private static void addOfDeepNodes(Check check) {
        check.sentence("or one of them inside of more than 5 others (an operator or built-in has its parts"
                + " inside): FULL.");
        for (String deep : JUST_DEEP) {
            DotConsole console = new DotConsole();
            check.dueAdd("x=" + deep, console, 1);
            check.dueAdd("x=(((" + deep + ")))", console, 2);
            check.dueAdd("x=-(" + deep + ")", console, FULL);
            check.dueAdd("x=1+(" + deep + ")", console, FULL);
            check.dueAdd("x=(" + deep + ")|1", console, FULL);
            check.dueAdd("x=rnd(" + deep + ")", console, FULL);
            check.dueAdd("poke 1,-(" + deep + ")", console, FULL);
        }
        check.dueGood("pset -----1,-----2,---3", 16);
        check.dueFull("pset 1,------1,1");
        check.dueFull("pset 1,1,------1");
        check.dueFull("x=" + "-".repeat(45) + "1");
    }

    private static void addToTwentyEightLines(Check check) {
        check.sentence("There are 28 lines: FULL.");
        DotConsole console = new DotConsole();
        for (int i = 1; i <= 28; i++) {
            check.dueAdd(i % 2 == 0 ? "end" : "if x", console, i);
        }
        for (String text : new String[] {"end", "x=1", "y=1", "cls 1"}) {
            check.dueAdd(text, console, FULL);
        }
        check.due("lines", console.count(0), 28);
        check.due("names", console.count(2), 1);
        check.due("nodes of 29", console.nodes(29), REFUSED);
        check.due("seal", console.seal(), 0);
    }

    /** A console with so many names: a, b, c and so on. */
    private static DotConsole withNames(int many) {
        DotConsole console = new DotConsole();
        for (int k = 0; k < many; k++) {
            Check.add(console, (char) ('a' + k) + "=1");
        }
        return console;
    }

    private static void addWithManyNames(Check check) {
        check.sentence("With the names of this line (that before '=' too) there would be more than 12"
                + " different ones in the program: FULL.");
        check.dueAdd("m=1", withNames(11), 12);
        check.dueAdd("m=1", withNames(12), FULL);
        check.dueAdd("x=x", withNames(11), 12);
        check.dueAdd("a=x", withNames(11), 12);
        check.dueAdd("a=x", withNames(12), FULL);
        check.dueAdd("x=a", withNames(12), FULL);
        check.dueAdd("x=y", withNames(11), FULL);
        check.dueAdd("x=y", withNames(10), 11);
        check.dueAdd("poke x,y", withNames(11), FULL);
        check.dueAdd("poke x,y", withNames(10), 11);
        check.dueAdd("poke x,x+x", withNames(11), 12);
        check.dueAdd("if x", withNames(12), FULL);
        check.dueAdd("l=a+b+c+d", withNames(12), 13);
        check.dueAdd("end", withNames(12), 13);
        check.dueAdd("aa=1", withNames(12), FULL);
        check.dueAdd("pset a|b|c|d,e|f|g|h,i", withNames(0), 1);
        DotConsole console = withNames(11);
        check.dueAdd("x=y", console, FULL);
        check.due("names after FULL", console.count(2), 11);
        check.dueAdd("y=1", console, 12);
        check.due("the 12th", console.name(11, 0), 'y');
        check.dueAdd("x=1", console, FULL);
    }

    private static void addNumbersLines(Check check) {
        check.sentence("Else the line's number, 1, 2, .. .");
        DotConsole console = new DotConsole();
        for (int i = 1; i <= 28; i++) {
            check.dueAdd("x=", console, BAD);
            check.dueAdd("x=------1", console, FULL);
            check.dueAdd("x=1", console, i);
            check.due("lines", console.count(0), i);
        }
    }

    private static void placeOfTheFirstWrongToken(Check check) {
        check.sentence("the place (from 0) of the first character of the first token (or what is not a token)"
                + " such that the tokens up to it are not the beginning of any statement");
        check.dueBad("1", 0);
        check.dueBad("   1", 3);
        check.dueBad("x==", 2);
        check.dueBad("x   =   =", 8);
        check.dueBad("x=1 abc", 4);
        check.dueBad("x=1 12.5", 4);
        check.dueBad("x=1 # $", 4);
        check.dueBad("x=# 1 1", 2);
        check.dueBad("x=1 1 #", 4);
        check.dueBad("x=1 abcdefgh", 4);
        check.dueBad("x=abcdefgh 1", 2);
        check.dueBad("x=123456.5", 2);
        check.dueBad("abs(1)", 0);
        check.dueBad("if else", 3);
        check.dueBad("else else", 5);
        check.dueBad(" ".repeat(47) + "1", 47);
        check.dueBad("x=" + "1+".repeat(22) + "1)", 47);
        // A beginning that could only become too large a statement is one all the same.
        check.dueBad("x=------1 1", 10);
        check.dueBad("x=" + "1+".repeat(20) + "*", 42);
    }

    private static void placeAtTheEnd(Check check) {
        check.sentence("the text's length if all are one.");
        String[] beginnings = {"", " ", "x", "x ", "  x  ", "x=", "x=   ", "if", "while ", "cls", "pset", "line",
            "box", "poke", "pset 1", "pset 1,", "pset 1,2", "pset 1,2,", "poke 1", "x=-", "x=!", "x=@", "x=(", "x=(1",
            "x=((1)", "x=1+", "x=1<", "x=1<2&", "x=min", "x=min(", "x=min(1", "x=min(1,", "x=min(1,2", "x=abs ( 1 "};
        for (String text : beginnings) {
            check.dueBad(text, text.length());
        }
        check.dueBad("x=" + "(".repeat(46), 48);
        check.dueBad("x=" + "-".repeat(46), 48);
        check.dueBad("x=" + " ".repeat(46), 48);
    }

    private static void placeOtherwise(Check check) {
        check.sentence("REFUSED after another answer, and at first.");
        DotConsole console = new DotConsole();
        check.due("at first", console.place(), REFUSED);
        duePlace(check, console, "x", BAD, 1);
        duePlace(check, console, "x=1", 1, REFUSED);
        duePlace(check, console, "x=1+", BAD, 4);
        duePlace(check, console, "x=------1", FULL, REFUSED);
        duePlace(check, console, "", BAD, 0);
        duePlace(check, console, MANY_NODES[0], FULL, REFUSED);
        duePlace(check, console, "x x", BAD, 2);
        check.due("asked again", console.place(), 2);
        check.due("seal", console.seal(), 0);
        check.due("after seal", console.place(), 2);
        duePlace(check, console, "x", REFUSED, REFUSED);
    }

    private static void duePlace(Check check, DotConsole console, String text, int answer, int place) {
        check.dueAdd(text, console, answer);
        check.due("place after '" + text + "'", console.place(), place);
    }

    private static void dueSeal(Check check, int want, String lines) {
        DotConsole console = lines.isEmpty() ? new DotConsole() : Check.withLines(lines.split(";"));
        check.due("seal of " + lines, console.seal(), want);
        check.due("sealed, " + lines, console.count(5), want == 0 ? 1 : 0);
    }

    private static void sealOfDeepBlocks(Check check) {
        check.sentence("an if or while inside of 4 others that are not ended");
        dueSeal(check, 0, "if 1;if 1;if 1;if 1;end;end;end;end");
        dueSeal(check, 0, "while 1;while 1;while 1;while 1;end;end;end;end");
        dueSeal(check, 5, "if 1;if 1;if 1;if 1;if 1;end;end;end;end;end");
        dueSeal(check, 5, "while 1;if 1;while 1;if 1;while 1;end;end;end;end;end");
        dueSeal(check, 5, "if 1;while 1;if 1;while 1;if 1;end;end;end;end;end");
        dueSeal(check, 0, "if 1;if 1;if 1;if 1;end;if 1;end;end;end;end");
        dueSeal(check, 0, "if 1;if 1;if 1;if 1;else;end;else;end;else;if 1;end;end;end");
        dueSeal(check, 6, "if 1;if 1;if 1;if 1;else;if 1;end;end;end;end;end");
        dueSeal(check, 7, "if 1;if 1;if 1;if 1;x=1;cls 1;while 1");
    }

    private static void sealOfElse(Check check) {
        check.sentence("else that does not belong to an if, or to one that has an else");
        dueSeal(check, 0, "if 1;else;end");
        dueSeal(check, 1, "else");
        dueSeal(check, 2, "x=1;else");
        dueSeal(check, 2, "while 1;else;end");
        dueSeal(check, 3, "if 1;while 1;else;end;end");
        dueSeal(check, 4, "while 1;x=1;end;else");
        dueSeal(check, 3, "if 1;end;else");
        dueSeal(check, 3, "if 1;else;else;end");
        dueSeal(check, 5, "if 1;else;x=1;x=2;else;end");
        dueSeal(check, 5, "if 1;else;if 1;end;else;end");
        dueSeal(check, 0, "if 1;else;if 1;else;end;end");
        dueSeal(check, 0, "if 1;if 1;else;end;else;end");
        dueSeal(check, 0, "if 1;while 1;end;else;end");
    }

    private static void sealOfEnd(Check check) {
        check.sentence("end without what it ends");
        dueSeal(check, 1, "end");
        dueSeal(check, 2, "x=1;end");
        dueSeal(check, 3, "if 1;end;end");
        dueSeal(check, 4, "if 1;else;end;end");
        dueSeal(check, 3, "while 1;end;end;while 1;end");
        dueSeal(check, 6, "if 1;while 1;end;end;x=1;end");
    }

    private static void sealOfOpenBlocks(Check check) {
        check.sentence("one more than there are lines if an if or while is not ended at the end.");
        dueSeal(check, 2, "if 1");
        dueSeal(check, 2, "while 1");
        dueSeal(check, 3, "if 1;else");
        dueSeal(check, 4, "if 1;while 1;end");
        dueSeal(check, 5, "if 1;if 1;if 1;if 1");
        dueSeal(check, 29, "if 1;end;".repeat(13) + "x=1;if 1");
        dueSeal(check, 0, "if 1;end;".repeat(13) + "if 1;end");
        dueSeal(check, 0, "");
        dueSeal(check, 0, "x=1");
    }

    private static void sealTellsTheFirst(Check check) {
        check.sentence("Else the number of the first line that is wrong");
        dueSeal(check, 1, "else;end;if 1");
        dueSeal(check, 2, "x=1;end;else;while 1");
        dueSeal(check, 3, "if 1;else;else;else;end;end");
        DotConsole console = Check.withLines("if x");
        check.due("seal", console.seal(), 2);
        check.due("seal again", console.seal(), 2);
        check.dueAdd("y=1", console, 2);
        check.due("seal with a line more", console.seal(), 3);
        check.due("sealed", console.count(5), 0);
        check.due("frame", console.frame(0), REFUSED);
        check.dueAdd("end", console, 3);
        check.due("seal", console.seal(), 0);
        check.due("frame", console.frame(0), 0);
    }

    private static void sealWhenSealed(Check check) {
        check.sentence("REFUSED if sealed.");
        for (DotConsole console : new DotConsole[] {Check.sealed(), Check.sealed("x=1")}) {
            check.due("seal", console.seal(), REFUSED);
            check.due("frame", console.frame(0), 0);
            check.due("seal", console.seal(), REFUSED);
            check.due("restart", console.restart(), 0);
            check.due("seal", console.seal(), REFUSED);
            check.due("sealed", console.count(5), 1);
        }
    }
}
