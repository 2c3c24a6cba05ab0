/** 'Terms', sentence by sentence: numbers, and what expressions come to. */
public final class ValueEdgesTest {
    private static final int ONE = Check.ONE;
    private static final int GREATEST = Check.GREATEST;
    private static final int LEAST = Check.LEAST;
    private static final String TINY = Check.TINY_TEXT;
    private static final String MOST = Check.GREATEST_TEXT;
    private static final String DEEP = Check.LEAST_TEXT;

    public static void main(String[] args) {
        Check check = new Check();
        wrapping(check);
        truth(check);
        floors(check);
        fromLeftToRight(check);
        bits(check);
        tests(check);
        sums(check);
        products(check);
        quotients(check);
        quotientsByZero(check);
        remainders(check);
        negatives(check);
        nots(check);
        cells(check);
        absolutes(check);
        wholeParts(check);
        lessAndMore(check);
        buttons(check);
        struckButtons(check);
        dots(check);
        randomNumbers(check);
        check.finish();
    }

    private static void wrapping(Check check) {
        check.sentence("NUMBERS are 32-bit ints that stand for the int / 65536; they wrap.");
        check.dueValue(TINY, 1);
        check.dueValue(MOST, GREATEST);
        check.dueValue(DEEP, LEAST);
        check.dueValue(MOST + "+" + TINY, LEAST);
        check.dueValue(DEEP + "-" + TINY, GREATEST);
        check.dueValue("-" + DEEP, LEAST);
        check.dueValue("200*200", 40000 * ONE);
        check.dueValue("32767/0.5", -2 * ONE);
        DotConsole console = Check.sealed("x=x+30000");
        console.frame(0);
        check.due("once 30000", console.value(0), 30000 * ONE);
        console.frame(0);
        check.due("twice 30000", console.value(0), (60000 - 65536) * ONE);
    }

    private static void truth(Check check) {
        check.sentence("TRUE is any but 0");
        String[] all = {"1", TINY, "-" + TINY, "-1", MOST, DEEP, "0.0001", "0", "-0", "0.0000", "1-1", "1<0"};
        for (int i = 0; i < all.length; i++) {
            int want = i < 7 ? ONE : 0;
            DotConsole chosen = Check.sealed("if " + all[i], "x=1", "end");
            check.due("frame", chosen.frame(0), 0);
            check.due("if " + all[i], chosen.value(0), want);
            DotConsole looped = Check.sealed("while " + all[i], "x=1", "end");
            check.due("frame of while " + all[i], looped.frame(0), want == 0 ? 0 : 1);
            check.due("while " + all[i], looped.value(0), want);
        }
        check.sentence("a test gives 65536 or 0.");
        for (String holding : new String[] {"1<2", "2>1", "1=1", "!0", "-5<-4", TINY + "=" + TINY}) {
            check.dueValue(holding, 65536);
        }
        for (String failing : new String[] {"2<1", "1>2", "1=2", "!1", "!5", "1<1", "1>1"}) {
            check.dueValue(failing, 0);
        }
    }

    private static void floors(Check check) {
        check.sentence("FLOOR x is x >> 16.");
        // Seen through pget: the dot at 3, 0 is 7.
        String[] three = {"3", "3+" + TINY, "3.9999", "4-" + TINY};
        String[] other = {"3-" + TINY, "4", "-3", "-4+" + TINY, "-3.9999"};
        for (String x : three) {
            dueDot(check, x, 7);
        }
        for (String x : other) {
            dueDot(check, x, 0);
        }
    }

    private static void dueDot(Check check, String x, int want) {
        DotConsole console = Check.sealed("pset 3,0,7", "x=pget(" + x + ",0)");
        check.due("frame", console.frame(0), 0);
        check.due("pget at " + x, console.value(0), want * ONE);
    }

    /** The upper 16 bits of the seeds that follow one another from 1. */
    private static int[] seeds(int many) {
        int[] s = new int[many];
        int seed = 1;
        for (int i = 0; i < many; i++) {
            seed = seed * 1103515245 + 12345;
            s[i] = seed >>> 16;
        }
        return s;
    }

    private static void fromLeftToRight(Check check) {
        check.sentence("VALUES, parts from left to right");
        int[] s = seeds(5);
        check.dueValue("rnd(1)-rnd(1)", s[0] - s[1]);
        check.dueValue("rnd(1)-rnd(1)*2", s[0] - 2 * s[1]);
        check.dueValue("rnd(1)-(rnd(1)-rnd(1))", s[0] - (s[1] - s[2]));
        check.dueValue("(rnd(1)-rnd(1))-rnd(1)", s[0] - s[1] - s[2]);
        check.dueValue("max(rnd(1)-rnd(1),0-1)", s[0] - s[1]);
        check.dueValue("rnd(1)%rnd(1)", s[0] % s[1]);
        check.dueValue("rnd(rnd(1))", (int) ((long) s[1] * s[0] >> 16));
        DotConsole console = Check.sealed("pset rnd(16),rnd(16),rnd(15)+1");
        check.due("frame", console.frame(0), 0);
        check.due("pset of rnd", console.dot(s[0] * 16 >> 16, s[1] * 16 >> 16), (s[2] * 15 >> 16) + 1);
        DotConsole poked = Check.sealed("poke rnd(32),rnd(1)");
        check.due("frame", poked.frame(0), 0);
        check.due("poke of rnd", poked.cell(s[0] * 32 >> 16), s[1]);
    }

    private static void bits(Check check) {
        check.sentence("| & of all bits");
        check.dueValue("5|3", 7 * ONE);
        check.dueValue("5&3", ONE);
        check.dueValue("0|0", 0);
        check.dueValue("0&-1", 0);
        check.dueValue("1|" + TINY, ONE + 1);
        check.dueValue("(1+" + TINY + ")&" + TINY, 1);
        check.dueValue("1.5|0.25", ONE + ONE / 2 + ONE / 4);
        check.dueValue("-" + TINY + "&0.9999", 65529);
        check.dueValue(DEEP + "|" + MOST, -1);
        check.dueValue(DEEP + "&" + MOST, 0);
        check.dueValue(DEEP + "&-" + TINY, LEAST);
        check.dueValue("-1|1", -ONE);
    }

    private static void tests(Check check) {
        check.sentence("< > = tests of the ints");
        String[] rising = {DEEP, "-1", "-" + TINY, "0", TINY, "1", MOST};
        for (int i = 0; i < rising.length; i++) {
            for (int j = 0; j < rising.length; j++) {
                check.dueValue(rising[i] + "<" + rising[j], i < j ? ONE : 0);
                check.dueValue(rising[i] + ">" + rising[j], i > j ? ONE : 0);
                check.dueValue(rising[i] + "=" + rising[j], i == j ? ONE : 0);
            }
        }
    }

    private static void sums(Check check) {
        check.sentence("+ -");
        check.dueValue("1.5+2.25", 3 * ONE + 3 * ONE / 4);
        check.dueValue("1-2", -ONE);
        check.dueValue("32767+1", LEAST);
        check.dueValue(MOST + "+" + MOST, -2);
        check.dueValue(DEEP + "+" + DEEP, 0);
        check.dueValue(DEEP + "-1", 32767 * ONE);
        check.dueValue("0-" + DEEP, LEAST);
        check.dueValue(MOST + "-" + DEEP, -1);
    }

    private static void products(Check check) {
        check.sentence("x * y = (x * y, exact) >> 16");
        check.dueValue("1.5*1.5", 2 * ONE + ONE / 4);
        check.dueValue("0*" + DEEP, 0);
        check.dueValue("1*" + DEEP, LEAST);
        check.dueValue("-1*" + DEEP, LEAST);
        check.dueValue("1*" + MOST, GREATEST);
        check.dueValue(TINY + "*" + TINY, 0);
        check.dueValue("-" + TINY + "*" + TINY, -1);
        check.dueValue(TINY + "*0.5", 0);
        check.dueValue("-" + TINY + "*0.5", -1);
        check.dueValue("-" + TINY + "*-0.5", 0);
        check.dueValue("-3*0.5", -ONE - ONE / 2);
        check.dueValue("300*300", (int) (90000L * ONE));
        check.dueValue(MOST + "*" + MOST, -ONE);
        check.dueValue(MOST + "*" + DEEP, ONE / 2);
        check.dueValue(DEEP + "*" + DEEP, 0);
        check.dueValue(DEEP + "*" + TINY, -32768);
        check.dueValue(MOST + "*" + TINY, 32767);
    }

    private static void quotients(Check check) {
        check.sentence("x / y = (x * 65536) / y, exact, toward zero, then wrapped to an int");
        check.dueValue("7/2", 3 * ONE + ONE / 2);
        check.dueValue("1/3", 21845);
        check.dueValue("-1/3", -21845);
        check.dueValue("1/-3", -21845);
        check.dueValue("-1/-3", 21845);
        check.dueValue(TINY + "/2", 0);
        check.dueValue("-" + TINY + "/2", 0);
        check.dueValue("0/5", 0);
        check.dueValue(MOST + "/" + TINY, -ONE);
        check.dueValue(MOST + "/-" + TINY, ONE);
        check.dueValue(DEEP + "/" + TINY, 0);
        check.dueValue(DEEP + "/-" + TINY, 0);
        check.dueValue(DEEP + "/-1", LEAST);
        check.dueValue(DEEP + "/1", LEAST);
        check.dueValue(DEEP + "/" + DEEP, ONE);
        check.dueValue(DEEP + "/" + MOST, -65536);
        check.dueValue(TINY + "/" + TINY, ONE);
        check.dueValue(TINY + "/" + DEEP, 0);
        check.dueValue("20000/0.25", (int) (80000L * ONE));
    }

    private static void quotientsByZero(Check check) {
        check.sentence("and with y 0 the int 2147483647 if x is 0 or more, else -2147483648");
        for (String x : new String[] {"0", TINY, "1", MOST}) {
            check.dueValue(x + "/0", 2147483647);
            check.dueValue(x + "/(1-1)", 2147483647);
            check.dueValue(x + "/-0", 2147483647);
        }
        for (String x : new String[] {"-" + TINY, "-1", DEEP}) {
            check.dueValue(x + "/0", -2147483648);
            check.dueValue(x + "/-0", -2147483648);
        }
    }

    private static void remainders(Check check) {
        check.sentence("x % y = x less y * floor of the exact quotient of the ints, 0 with y 0");
        check.dueValue("7%3", ONE);
        check.dueValue("-7%3", 2 * ONE);
        check.dueValue("7%-3", -2 * ONE);
        check.dueValue("-7%-3", -ONE);
        check.dueValue("6%3", 0);
        check.dueValue("-6%3", 0);
        check.dueValue("6%-3", 0);
        check.dueValue("-6%-3", 0);
        check.dueValue("0%3", 0);
        check.dueValue("0%-3", 0);
        check.dueValue("1.75%0.5", ONE / 4);
        check.dueValue("-" + TINY + "%1", ONE - 1);
        check.dueValue(TINY + "%-1", 1 - ONE);
        check.dueValue(TINY + "%1", 1);
        check.dueValue("5%" + TINY, 0);
        check.dueValue(DEEP + "%-" + TINY, 0);
        check.dueValue(DEEP + "%" + MOST, GREATEST - 1);
        check.dueValue(MOST + "%" + DEEP, -1);
        check.dueValue(DEEP + "%" + DEEP, 0);
        for (String x : new String[] {"0", "7", "-7", TINY, DEEP, MOST}) {
            check.dueValue(x + "%0", 0);
        }
    }

    private static void negatives(Check check) {
        check.sentence("- U is 0 - U");
        check.dueValue("-0", 0);
        check.dueValue("-1", -ONE);
        check.dueValue("--1", ONE);
        check.dueValue("-" + TINY, -1);
        check.dueValue("-" + MOST, -GREATEST);
        check.dueValue("-" + DEEP, LEAST);
    }

    private static void nots(Check check) {
        check.sentence("! U a test for 0");
        check.dueValue("!0", ONE);
        check.dueValue("!1", 0);
        check.dueValue("!" + TINY, 0);
        check.dueValue("!-" + TINY, 0);
        check.dueValue("!" + DEEP, 0);
        check.dueValue("!!0", 0);
        check.dueValue("!!" + TINY, ONE);
    }

    /** A console whose cell i is i + 1, and what the expression comes to there. */
    private static void dueOfCells(Check check, String expression, int want) {
        DotConsole console = Check.sealed("i=0", "while i<32", "poke i,i+1", "i=i+1", "end", "x=" + expression);
        check.due("frame", console.frame(0), 0);
        check.due(expression, console.value(1), want);
    }

    private static void cells(Check check) {
        check.sentence("@ x = the CELL FLOOR x (0 .. 31; another one is 0)");
        dueOfCells(check, "@0", ONE);
        dueOfCells(check, "@0.9999", ONE);
        dueOfCells(check, "@(1-" + TINY + ")", ONE);
        dueOfCells(check, "@1", 2 * ONE);
        dueOfCells(check, "@31", 32 * ONE);
        dueOfCells(check, "@31.9999", 32 * ONE);
        dueOfCells(check, "@(32-" + TINY + ")", 32 * ONE);
        for (String none : new String[] {"32", "33", "63", "64", "256", "-1", "-" + TINY, "-32", MOST, DEEP}) {
            dueOfCells(check, "@" + none, 0);
        }
        dueOfCells(check, "@@@0", 3 * ONE);
        dueOfCells(check, "@@31", 0);
    }

    private static void absolutes(Check check) {
        check.sentence("abs x is x or 0 - x");
        check.dueValue("abs(0)", 0);
        check.dueValue("abs(1.5)", ONE + ONE / 2);
        check.dueValue("abs(-1.5)", ONE + ONE / 2);
        check.dueValue("abs(-" + TINY + ")", 1);
        check.dueValue("abs(" + MOST + ")", GREATEST);
        check.dueValue("abs(-" + MOST + ")", GREATEST);
        check.dueValue("abs(" + DEEP + ")", LEAST);
    }

    private static void wholeParts(Check check) {
        check.sentence("flr x = FLOOR x * 65536");
        check.dueValue("flr(0)", 0);
        check.dueValue("flr(" + TINY + ")", 0);
        check.dueValue("flr(1-" + TINY + ")", 0);
        check.dueValue("flr(1)", ONE);
        check.dueValue("flr(-" + TINY + ")", -ONE);
        check.dueValue("flr(-1)", -ONE);
        check.dueValue("flr(-1-" + TINY + ")", -2 * ONE);
        check.dueValue("flr(" + MOST + ")", 32767 * ONE);
        check.dueValue("flr(" + DEEP + ")", LEAST);
    }

    private static void lessAndMore(Check check) {
        check.sentence("min, max");
        String[] rising = {DEEP, "-" + TINY, "0", TINY, MOST};
        int[] ints = {LEAST, -1, 0, 1, GREATEST};
        for (int i = 0; i < rising.length; i++) {
            for (int j = 0; j < rising.length; j++) {
                String both = "(" + rising[i] + "," + rising[j] + ")";
                check.dueValue("min" + both, ints[Math.min(i, j)]);
                check.dueValue("max" + both, ints[Math.max(i, j)]);
            }
        }
    }

    private static void dueWithButtons(Check check, String expression, int buttons, int want) {
        DotConsole console = Check.sealed("x=" + expression);
        check.due("frame", console.frame(buttons), 0);
        check.due(expression + " with " + buttons, console.value(0), want);
    }

    private static void buttons(Check check) {
        check.sentence("btn x: a test whether button FLOOR x (0 .. 5, no other) is down");
        for (int b = 0; b <= 5; b++) {
            dueWithButtons(check, "btn(" + b + ")", 1 << b, ONE);
            dueWithButtons(check, "btn(" + b + ".9999)", 1 << b, ONE);
            dueWithButtons(check, "btn(" + (b + 1) + "-" + TINY + ")", 1 << b, ONE);
            dueWithButtons(check, "btn(" + b + ")", 63 - (1 << b), 0);
            dueWithButtons(check, "btn(" + b + ")", 63, ONE);
            dueWithButtons(check, "btn(" + b + ")", 0, 0);
        }
        String[] none = {"6", "7", "31", "32", "33", "64", "-1", "-" + TINY, "-32", "-27", MOST, DEEP};
        for (String other : none) {
            dueWithButtons(check, "btn(" + other + ")", 63, 0);
            dueWithButtons(check, "btnp(" + other + ")", 63, 0);
        }
    }

    private static void struckButtons(Check check) {
        check.sentence("btnp x: whether it is down for k frames in a row up to this one with k = 1, or"
                + " k = 9, 13, 17, ..");
        for (int b = 0; b <= 5; b++) {
            DotConsole console = Check.sealed("x=btnp(" + b + ".5)");
            for (int k = 1; k <= 30; k++) {
                check.due("frame", console.frame(1 << b), 0);
                boolean struck = k == 1 || k == 9 || k == 13 || k == 17 || k == 21 || k == 25 || k == 29;
                check.due("button " + b + ", frame " + k, console.value(0), struck ? ONE : 0);
            }
        }
        // A row of frames starts anew when the button was up; 55 has all buttons down but this one.
        DotConsole console = Check.sealed("x=btnp(3)");
        int[] down = {0, 8, 8, 0, 8, 40, 8, 8, 9, 8, 8, 8, 8, 8, 55, 8, 0, 63};
        int[] struck = {0, 1, 0, 0, 1, 0, 0, 0, 0, 0, 0, 0, 1, 0, 0, 1, 0, 1};
        for (int i = 0; i < down.length; i++) {
            check.due("frame", console.frame(down[i]), 0);
            check.due("button 3 in frame " + i, console.value(0), struck[i] * ONE);
        }
    }

    private static void dots(Check check) {
        check.sentence("pget x y = 65536 * the dot at FLOOR x, FLOOR y (0 outside)");
        String[] inside = {"0", "0.9999", "1", "15", "15.9999", "16-" + TINY};
        for (String at : inside) {
            dueOfFullScreen(check, "pget(" + at + ",0)", 15 * ONE);
            dueOfFullScreen(check, "pget(0," + at + ")", 15 * ONE);
        }
        String[] outside = {"16", "17", "32", "256", "-1", "-" + TINY, "-16", MOST, DEEP};
        for (String at : outside) {
            dueOfFullScreen(check, "pget(" + at + ",0)", 0);
            dueOfFullScreen(check, "pget(0," + at + ")", 0);
            dueOfFullScreen(check, "pget(" + at + "," + at + ")", 0);
        }
        DotConsole console = Check.sealed("pset 15,0,9", "a=pget(15,0)", "b=pget(0,15)", "c=pget(-1,1)");
        check.due("frame", console.frame(0), 0);
        check.due("x is the first", console.value(0), 9 * ONE);
        check.due("y is the second", console.value(1), 0);
        check.due("no row runs into the next", console.value(2), 0);
    }

    private static void dueOfFullScreen(Check check, String expression, int want) {
        DotConsole console = Check.sealed("cls 15", "x=" + expression);
        check.due("frame", console.frame(0), 0);
        check.due(expression, console.value(0), want);
    }

    private static void randomNumbers(Check check) {
        check.sentence("rnd x: the SEED becomes SEED * 1103515245 + 12345; with s its upper 16 bits,"
                + " 0 .. 65535, the value is (s * x, exact) >> 16.");
        int[] s = seeds(40);
        int above = 0;
        DotConsole console = Check.sealed("x=rnd(1)");
        for (int i = 0; i < s.length; i++) {
            check.due("frame", console.frame(0), 0);
            check.due("rnd(1) number " + i, console.value(0), s[i]);
            above += s[i] > 32767 ? 1 : 0;
        }
        check.due("some have the highest bit", above > 5 && above < 35 ? 1 : 0, 1);
        check.dueValue("rnd(0)", 0);
        check.dueValue("rnd(0)+rnd(1)", s[1]);
        check.dueValue("rnd(" + TINY + ")", 0);
        check.dueValue("rnd(-" + TINY + ")", -1);
        check.dueValue("rnd(-1)", -s[0]);
        check.dueValue("rnd(16)", s[0] * 16);
        check.dueValue("rnd(" + MOST + ")", (int) ((long) s[0] * GREATEST >> 16));
        check.dueValue("rnd(" + DEEP + ")", (int) ((long) s[0] * LEAST >> 16));
        DotConsole large = Check.sealed("x=rnd(" + MOST + ")", "y=rnd(" + DEEP + ")");
        for (int i = 0; i < s.length; i += 2) {
            check.due("frame", large.frame(0), 0);
            check.due("of the greatest", large.value(0), (long) s[i] * GREATEST >> 16);
            check.due("of the least", large.value(1), (long) s[i + 1] * LEAST >> 16);
        }
    }
}
