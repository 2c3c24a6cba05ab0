/** Promise 4: place, and which texts are no statement (promise 3). */
public final class PlaceTest {
    public static void main(String[] args) {
        Check check = new Check();
        beginnings(check);
        wrongStarts(check);
        wrongExpressions(check);
        wrongNumbersOfParts(check);
        whatIsNoToken(check);
        isOfTheLastAdd(check);
        check.finish();
    }

    /** All tokens are the beginning of a statement: the place is the text's length. */
    private static void beginnings(Check check) {
        String[] texts = {"", "   ", "x", "x ", "x=", "x= ", "if", "while  ", "cls", "pset 1,2",
            "pset 1,2,", "line 1,2,3,4", "box 1,2,3,4,", "poke 1", "x=1+", "x=-", "x=!", "x=@",
            "x=(", "x=(1", "x=min", "x=min ", "x=min(", "x=min(1", "x=min(1,", "x=min(1,2",
            "x=abs(1", "x=1<", "x=1<2&", "x=(1<2)<"};
        for (String text : texts) {
            check.dueBad(text, text.length());
        }
    }

    private static void wrongStarts(Check check) {
        check.dueBad("5", 0);
        check.dueBad("  =1", 2);
        check.dueBad("min=3", 0);
        check.dueBad("rnd=3", 0);
        check.dueBad("abs", 0);
        check.dueBad(")", 0);
        check.dueBad("x x", 2);
        check.dueBad("x  (1)", 3);
        check.dueBad("x 5", 2);
        check.dueBad("end end", 4);
        check.dueBad("else 1", 5);
        check.dueBad("if=1", 2);
        check.dueBad("end=1", 3);
        check.dueBad("line=1", 4);
        check.dueBad("if ,", 3);
        check.dueBad("cls )", 4);
    }

    private static void wrongExpressions(Check check) {
        check.dueBad("x=1<2<3", 5);
        check.dueBad("x=1=2=3", 5);
        check.dueBad("x=1<2+3>3", 7);
        check.dueBad("x=1|1<2&3>4*2=3", 13);
        check.dueBad("x=(1<2<3)", 6);
        check.dueBad("x=min(1<2,3<4<5)", 13);
        check.dueBad("x==1", 2);
        check.dueBad("x=1 2", 4);
        check.dueBad("x=1 y", 4);
        check.dueBad("x=y(1)", 3);
        check.dueBad("x=1(", 3);
        check.dueBad("x=1!2", 3);
        check.dueBad("x=1@2", 3);
        check.dueBad("x=*1", 2);
        check.dueBad("x=1+*1", 4);
        check.dueBad("x=+1", 2);
        check.dueBad("x=()", 3);
        check.dueBad("x=(1))", 5);
        check.dueBad("x=1)", 3);
        check.dueBad("x=)", 2);
        check.dueBad("x=if", 2);
        check.dueBad("x=1+end", 4);
        check.dueBad("x=poke(1,2)", 2);
        check.dueBad("x=1min(1,2)", 3);
        check.dueBad("x=min 3", 6);
        check.dueBad("x=min=3", 5);
        check.dueBad("x=min)", 5);
    }

    private static void wrongNumbersOfParts(Check check) {
        check.dueBad("if 1,2", 4);
        check.dueBad("x=1,2", 3);
        check.dueBad("cls 1,2", 5);
        check.dueBad("pset 1,2,3,4", 10);
        check.dueBad("line 1,2,3,4,5,6", 14);
        check.dueBad("box 1,2,3,4,5,6", 13);
        check.dueBad("poke 1,2,3", 8);
        check.dueBad("poke (1,2)", 7);
        check.dueBad("poke ,2", 5);
        check.dueBad("poke 1,,2", 7);
        check.dueBad("x=min()", 6);
        check.dueBad("x=min(1)", 7);
        check.dueBad("x=min(1,)", 8);
        check.dueBad("x=min(1,2,3)", 9);
        check.dueBad("x=min((1,2),3)", 8);
        check.dueBad("x=max(1)", 7);
        check.dueBad("x=pget(1)", 8);
        check.dueBad("x=pget(1,2,3)", 10);
        for (String one : new String[] {"abs", "flr", "btn", "rnd"}) {
            check.dueBad("x=" + one + "(1,2)", 7);
            check.dueBad("x=" + one + "()", 6);
        }
        check.dueBad("x=btnp(1,2)", 8);
        check.dueBad("poke min(1,2,3)", 12);
    }

    private static void whatIsNoToken(Check check) {
        String wrong = "#$\"';:?[]^_`{}~\\.ABZ";
        for (int i = 0; i < wrong.length(); i++) {
            check.dueBad("x= " + wrong.charAt(i), 3);
            check.dueBad("x=1 " + wrong.charAt(i) + "1", 4);
            check.dueBad(wrong.charAt(i) + "x=1", 0);
        }
        check.dueBad("toolong=1", 0);
        check.dueBad("x=1+sevenab", 4);
        check.dueBad("x 1 toolong", 2);
        check.dueBad("x=1<2<toolong", 5);
        check.dueBad("x=32768", 2);
        check.dueBad("x=40000", 2);
        check.dueBad("x=000001", 2);
        check.dueBad("x=1.23456", 2);
        check.dueBad("x=1.00000", 2);
        check.dueBad("x=12345678901234567890.1", 2);
        check.dueBad("x=1.1234567890123456789012345678901234567890123", 2);
        check.dueBad("x=1.", 3);
        check.dueBad("x=1. 5", 3);
        check.dueBad("x=.5", 2);
        check.dueBad("x=1.2.3", 5);
        check.dueBad("x=32767.99991", 2);
        check.dueBad("xX=1", 1);
        check.dueBad("x=1a", 3);
        check.dueBad("a1=1", 1);
    }

    private static void isOfTheLastAdd(Check check) {
        DotConsole console = new DotConsole();
        check.due("place at first", console.place(), DotConsole.REFUSED);
        check.dueAdd("x", console, DotConsole.BAD);
        check.due("place", console.place(), 1);
        check.due("place again", console.place(), 1);
        Check.type(console, "y=1");
        check.due("place while typing", console.place(), 1);
        check.due("restart is no add", console.restart(), 0);
        check.due("place after restart", console.place(), 1);
        check.due("add", console.add(), 1);
        check.due("place after a line", console.place(), DotConsole.REFUSED);
        check.dueAdd("x=1 1", console, DotConsole.BAD);
        check.due("place", console.place(), 4);
        check.dueAdd("x=------1", console, DotConsole.FULL);
        check.due("place after FULL", console.place(), DotConsole.REFUSED);
        check.dueAdd("", console, DotConsole.BAD);
        check.due("place", console.place(), 0);
        check.due("seal", console.seal(), 0);
        check.due("place after seal", console.place(), 0);
        check.due("frame", console.frame(0), 0);
        check.due("place after frame", console.place(), 0);
        check.due("add when sealed", console.add(), DotConsole.REFUSED);
        check.due("place after REFUSED", console.place(), DotConsole.REFUSED);
    }
}
