/** Promise 6 and the terms: what expressions come to. */
public final class ValuesTest {
    private static final int ONE = Check.ONE;
    private static final int LEAST = Integer.MIN_VALUE;
    /** Written so, as there is no number for it: -32768. */
    private static final String LEAST_TEXT = "(-32767-1)";

    public static void main(String[] args) {
        Check check = new Check();
        numbers(check);
        order(check);
        bitsAndTests(check);
        sumsAndProducts(check);
        quotients(check);
        remainders(check);
        prefixes(check);
        builtIns(check);
        cells(check);
        randomNumbers(check);
        names(check);
        check.finish();
    }

    private static void numbers(Check check) {
        check.dueValue("0", 0);
        check.dueValue("1", ONE);
        check.dueValue("00007", 7 * ONE);
        check.dueValue("32767", 32767 * ONE);
        check.dueValue("0.5", ONE / 2);
        check.dueValue("0.1", 6553);
        check.dueValue("0.01", 655);
        check.dueValue("0.001", 65);
        check.dueValue("0.0001", 6);
        check.dueValue("0.0000", 0);
        check.dueValue("0.9999", 65529);
        check.dueValue("1.50", ONE + ONE / 2);
        check.dueValue("32767.9999", 32767 * ONE + 65529);
    }

    private static void order(Check check) {
        check.dueValue("1+2*3", 7 * ONE);
        check.dueValue("(1+2)*3", 9 * ONE);
        check.dueValue("9-3-2", 4 * ONE);
        check.dueValue("9-(3-2)", 8 * ONE);
        check.dueValue("9-3+2", 8 * ONE);
        check.dueValue("16/4/2", 2 * ONE);
        check.dueValue("7%4*2", 6 * ONE);
        check.dueValue("7*4%5", 3 * ONE);
        check.dueValue("2*3<7", ONE);
        check.dueValue("1+1=2", ONE);
        check.dueValue("4|1<2", 5 * ONE);
        check.dueValue("1|2&4", ONE);
        check.dueValue("(1|2)&4", 0);
        check.dueValue("3&2=2", ONE);
        check.dueValue("-2*3+1", -5 * ONE);
        check.dueValue("-2+3", ONE);
        check.dueValue("2--3", 5 * ONE);
        check.dueValue("2*-3", -6 * ONE);
        check.dueValue("!0+1", 2 * ONE);
        check.dueValue("-!0", -ONE);
        check.dueValue("!-0", ONE);
    }

    private static void bitsAndTests(Check check) {
        check.dueValue("5|3", 7 * ONE);
        check.dueValue("5&3", ONE);
        check.dueValue("1.5|0.25", ONE + ONE / 2 + ONE / 4);
        check.dueValue("-1&0.5", ONE / 2 & -ONE);
        check.dueValue("-0.0001|1", -6 | ONE);
        check.dueValue("1<1", 0);
        check.dueValue("1<1.0001", ONE);
        check.dueValue("-1<1", ONE);
        check.dueValue(LEAST_TEXT + "<32767", ONE);
        check.dueValue("1>1", 0);
        check.dueValue("1>0.9999", ONE);
        check.dueValue("-1>1", 0);
        check.dueValue("1=1", ONE);
        check.dueValue("1=1.0001", 0);
    }

    private static void sumsAndProducts(Check check) {
        check.dueValue("32767+1", LEAST);
        check.dueValue(LEAST_TEXT + "-1", 32767 * ONE);
        check.dueValue("0.5*0.5", ONE / 4);
        check.dueValue("300*300", 1603272704);
        check.dueValue("-0.0001*0.5", -3);
        check.dueValue("-0.0001*0.1", -1);
        check.dueValue("0.0001*0.1", 0);
        check.dueValue("32767.9999*32767.9999", wrappedProduct(32767 * ONE + 65529));
        check.dueValue(LEAST_TEXT + "*" + LEAST_TEXT, 0);
        check.dueValue(LEAST_TEXT + "*-1", LEAST);
    }

    private static int wrappedProduct(int x) {
        java.math.BigInteger big = java.math.BigInteger.valueOf(x);
        return big.multiply(big).shiftRight(16).intValue();
    }

    private static void quotients(Check check) {
        check.dueValue("7/2", 3 * ONE + ONE / 2);
        check.dueValue("1/3", 21845);
        check.dueValue("-1/3", -21845);
        check.dueValue("1/-3", -21845);
        check.dueValue("-1/-3", 21845);
        check.dueValue("1/0", Integer.MAX_VALUE);
        check.dueValue("0/0", Integer.MAX_VALUE);
        check.dueValue("-1/0", LEAST);
        check.dueValue("-0.0001/0", LEAST);
        check.dueValue(LEAST_TEXT + "/-1", LEAST);
        check.dueValue("32767/0.5", -2 * ONE);
        check.dueValue("30000/0.0001", (int) (30000L * ONE * ONE / 6));
    }

    private static void remainders(Check check) {
        check.dueValue("7%3", ONE);
        check.dueValue("-7%3", 2 * ONE);
        check.dueValue("7%-3", -2 * ONE);
        check.dueValue("-7%-3", -ONE);
        check.dueValue("6%3", 0);
        check.dueValue("-6%3", 0);
        check.dueValue("1.75%0.5", ONE / 4);
        check.dueValue("7%0", 0);
        check.dueValue("-7%0", 0);
        check.dueValue("-7.25%2", 49152);
        check.dueValue(LEAST_TEXT + "%-1", 0);
        check.dueValue(LEAST_TEXT + "%32767", 32766 * ONE);
    }

    private static void prefixes(Check check) {
        check.dueValue("-1.5", -ONE - ONE / 2);
        check.dueValue("--1", ONE);
        check.dueValue("-" + LEAST_TEXT, LEAST);
        check.dueValue("!0", ONE);
        check.dueValue("!0.0001", 0);
        check.dueValue("!-1", 0);
        check.dueValue("!!5", ONE);
    }

    private static void builtIns(Check check) {
        check.dueValue("abs(-1.5)", ONE + ONE / 2);
        check.dueValue("abs(1.5)", ONE + ONE / 2);
        check.dueValue("abs(0)", 0);
        check.dueValue("abs" + LEAST_TEXT, LEAST);
        check.dueValue("flr(1.9999)", ONE);
        check.dueValue("flr(-0.0001)", -ONE);
        check.dueValue("flr(-2)", -2 * ONE);
        check.dueValue("flr" + LEAST_TEXT, LEAST);
        check.dueValue("min(1,2)", ONE);
        check.dueValue("min(2,-1)", -ONE);
        check.dueValue("max(1,2)", 2 * ONE);
        check.dueValue("max(2,-1)", 2 * ONE);
        check.dueValue("min(" + LEAST_TEXT + ",1)", LEAST);
        check.dueValue("max(min(3,4),min(5,2))", 3 * ONE);
    }

    private static void cells(Check check) {
        DotConsole console = Check.sealed("poke 0,7", "poke 31.9999,8", "poke -1,9", "poke 32,9",
                "poke 3,-1.5", "a=@0.9", "b=@31", "c=@32|@-0.0001", "d=@3*2", "e=@@3.5", "poke 0,@0+1");
        check.due("frame", console.frame(0), 0);
        int[] want = {7 * ONE, 8 * ONE, 0, -3 * ONE, 0};
        for (int k = 0; k < want.length; k++) {
            check.due("value " + k, console.value(k), want[k]);
        }
        check.due("cell 0", console.cell(0), 8 * ONE);
        check.due("cell 31", console.cell(31), 8 * ONE);
        check.due("cell 3", console.cell(3), -ONE - ONE / 2);
        for (int i = 4; i < 31; i++) {
            check.due("cell " + i, console.cell(i), 0);
        }
    }

    private static void randomNumbers(Check check) {
        DotConsole console = Check.sealed("a=rnd(1)-rnd(2)*rnd(-3)", "b=rnd(32767.9999)", "c=rnd(0)",
                "d=rnd" + LEAST_TEXT, "e=min(rnd(1),rnd(1))-rnd(1)");
        int seed = 1;
        int[] s = new int[18];
        for (int i = 0; i < s.length; i++) {
            seed = seed * 1103515245 + 12345;
            s[i] = seed >>> 16;
        }
        for (int i = 0; i < s.length; i += 9) {
            check.due("frame", console.frame(0), 0);
            int product = (int) ((long) (s[i + 1] * 2) * (s[i + 2] * -3) >> 16);
            check.due("a", console.value(0), s[i] - product);
            check.due("b", console.value(1), (long) s[i + 3] * (32767 * ONE + 65529) >> 16);
            check.due("c", console.value(2), 0);
            check.due("d", console.value(3), s[i + 5] * -32768);
            check.due("e", console.value(4), Math.min(s[i + 6], s[i + 7]) - s[i + 8]);
        }
    }

    private static void names(Check check) {
        DotConsole console = Check.sealed("abcdef=abcdef+1", "abcde=abcdef*2", "and=abcde-or", "or=1");
        check.due("frame", console.frame(0), 0);
        check.due("frame", console.frame(0), 0);
        check.due("abcdef", console.value(0), 2 * ONE);
        check.due("abcde", console.value(1), 4 * ONE);
        check.due("and", console.value(2), 3 * ONE);
        check.due("or", console.value(3), ONE);
    }
}
