/** Promise 3: add. What is no statement, and where, is PlaceTest's. */
public final class AddTest {
    public static void main(String[] args) {
        Check check = new Check();
        takesEveryStatement(check);
        emptiesTheText(check);
        countsNodes(check);
        looksHowDeepNodesAre(check);
        hasTwentyEightLines(check);
        hasTwelveNames(check);
        forgetsNamesOfLinesNotAdded(check);
        refusesWhenSealed(check);
        takesDeepBrackets(check);
        takesManyTexts(check);
        check.finish();
    }

    private static void takesEveryStatement(Check check) {
        String[] lines = {
            "if 1", "else", "while 1", "end", "cls 1", "pset 1,2,3", "line 1,2,3,4,5",
            "box 1,2,3,4,5", "poke 1,2", "x=1", "  x  =  1  ", "if1", "abc=xyzzyx",
            "x=abs(1)+flr(1)+btn(1)+btnp(1)", "x=min(1,2)+max(1,2)+pget(1,2)+rnd(1)",
            "x=1=2", "x=(1<2)<3", "x=1<2&2<3|3=4", "x=--!@-1", "x=32767.9999", "x=00001.0000",
            "and=or", "ends=ifs", "poke x,min (x,2)", "x=1-  -1", "x=!(1)", "x=min((1),((2)))",
        };
        DotConsole console = new DotConsole();
        for (int i = 0; i < lines.length; i++) {
            check.dueAdd(lines[i], console, i + 1);
        }
        check.due("lines", console.count(0), lines.length);
    }

    private static void emptiesTheText(Check check) {
        DotConsole console = new DotConsole();
        check.dueAdd("x=1", console, 1);
        check.due("length after a line", console.count(1), 0);
        check.dueAdd("x=", console, DotConsole.BAD);
        check.due("length after BAD", console.count(1), 0);
        check.dueAdd("x=------1", console, DotConsole.FULL);
        check.due("length after FULL", console.count(1), 0);
        check.due("lines", console.count(0), 1);
        check.dueAdd("end", console, 2);
    }

    private static void countsNodes(Check check) {
        DotConsole console = new DotConsole();
        check.dueAdd("line 1+2+3,4+5+6,7+8,9,1", console, 1);
        check.due("nodes", console.nodes(1), 5 + 5 + 3 + 1 + 1);
        check.dueAdd("line 1+2+3,4+5+6,7+8,-9,1", console, 2);
        check.due("nodes", console.nodes(2), 16);
        check.dueAdd("line 1+2+3,4+5+6,7+8,-9,-1", console, DotConsole.FULL);
        check.dueAdd("line 1+2+3,4+5+6,7+8,-9,(1)", console, 3);
        check.dueAdd("line 1+2+3,4+5+6,7+8,-9,abs(1)", console, DotConsole.FULL);
        check.dueAdd("line 1+2+3,4+5+6,7+8,-9,(1", console, DotConsole.BAD);
        check.due("lines", console.count(0), 3);
    }

    private static void looksHowDeepNodesAre(Check check) {
        String[] deepest = {"-----1", "!@-!@x", "1+2+3+4+5+6", "abs(abs(abs(abs(abs(1)))))",
            "1-(1-(1-(1-(1-1))))", "min(1,min(1,min(1,min(1,min(1,1)))))", "1|1&1<1+1*1"};
        DotConsole console = new DotConsole();
        for (int i = 0; i < deepest.length; i++) {
            check.dueAdd("x=" + deepest[i], console, i + 1);
            check.dueAdd("x=-(" + deepest[i] + ")", console, DotConsole.FULL);
            check.dueAdd("x=(((" + deepest[i] + ")))", Check.withLines(), 1);
        }
        check.dueAdd("x=1+2+3+4+5+6+7", console, DotConsole.FULL);
        check.dueAdd("pset -----1,-----1,1", console, deepest.length + 1);
        check.dueAdd("pset 1,1,------1", console, DotConsole.FULL);
        check.dueAdd("x=(1+2+3+4)+(5+6+7+8)", console, deepest.length + 2);
    }

    private static void hasTwentyEightLines(Check check) {
        DotConsole console = new DotConsole();
        for (int i = 1; i <= 28; i++) {
            check.dueAdd("end", console, i);
        }
        check.dueAdd("end", console, DotConsole.FULL);
        check.due("place after FULL", console.place(), DotConsole.REFUSED);
        check.dueAdd("nend", console, DotConsole.BAD);
        check.due("place after BAD", console.place(), 4);
        check.dueAdd("name=1", console, DotConsole.FULL);
        check.due("lines", console.count(0), 28);
        check.due("names", console.count(2), 0);
    }

    private static void hasTwelveNames(Check check) {
        DotConsole console = Check.withLines("a=b|c", "d=e|f", "g=h|i", "j=k|a");
        check.due("names", console.count(2), 11);
        check.dueAdd("m=n", console, DotConsole.FULL);
        check.dueAdd("poke m,n", console, DotConsole.FULL);
        check.due("names", console.count(2), 11);
        check.dueAdd("m=m+a", console, 5);
        check.due("names", console.count(2), 12);
        check.due("the 12th", console.name(11, 0), 'm');
        check.dueAdd("n=1", console, DotConsole.FULL);
        check.dueAdd("x=", console, DotConsole.BAD);
        check.dueAdd("a=n", console, DotConsole.FULL);
        check.dueAdd("a=m", console, 6);
        DotConsole many = new DotConsole();
        check.dueAdd("line a|b|c,d|e|f,g|h,i,j", many, 1);
        check.dueAdd("line a|b|c,d|e|f,g|h,k,m+n", many, DotConsole.FULL);
        check.dueAdd("a=b+c+d+e+f+g+h+i+j+k+m+n+o+p+q+r+s+t+u+v+w+z+y", many, DotConsole.FULL);
        check.due("names", many.count(2), 10);
    }

    private static void forgetsNamesOfLinesNotAdded(Check check) {
        DotConsole console = new DotConsole();
        check.dueAdd("wrong=wrongs+", console, DotConsole.BAD);
        check.dueAdd("deep=------deeper", console, DotConsole.FULL);
        check.due("names", console.count(2), 0);
        check.dueAdd("b=a", console, 1);
        check.due("names", console.count(2), 2);
        check.due("first name", console.name(0, 0), 'b');
        check.due("second name", console.name(1, 0), 'a');
    }

    private static void refusesWhenSealed(Check check) {
        DotConsole console = Check.sealed("x=1");
        check.dueAdd("y=1", console, DotConsole.REFUSED);
        check.dueAdd("y=", console, DotConsole.REFUSED);
        check.due("place", console.place(), DotConsole.REFUSED);
        check.due("lines", console.count(0), 1);
        check.due("names", console.count(2), 1);
        check.due("length", console.count(1), 0);
    }

    private static void takesDeepBrackets(Check check) {
        DotConsole console = new DotConsole();
        String deep = "x=" + "(".repeat(22) + "1" + ")".repeat(22);
        check.dueAdd(deep, console, 1);
        check.due("nodes", console.nodes(1), 1);
        check.dueAdd("x=" + "(".repeat(46), console, DotConsole.BAD);
        check.due("place", console.place(), 48);
        check.dueAdd("x=" + "-".repeat(45) + "1", console, DotConsole.FULL);
        check.dueAdd("x=" + "-".repeat(46), console, DotConsole.BAD);
        check.due("place", console.place(), 48);
    }

    /** Nothing of a text that was not added is left for the next one. */
    private static void takesManyTexts(Check check) {
        DotConsole console = new DotConsole();
        for (int i = 0; i < 40; i++) {
            check.dueAdd("x=((1<2", console, DotConsole.BAD);
        }
        check.dueAdd("x=1)", console, DotConsole.BAD);
        check.due("place", console.place(), 3);
        check.dueAdd("x=3<4", console, 1);
        check.due("nodes", console.nodes(1), 3);
    }
}
