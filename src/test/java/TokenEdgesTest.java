/** 'Terms', sentence by sentence: the line, its tokens, what is none, what a number means. */
public final class TokenEdgesTest {
    private static final String SIGNS = "+-*/%<>=&|!@,()";

    public static void main(String[] args) {
        Check check = new Check();
        blanks(check);
        words(check);
        numbers(check);
        signs(check);
        otherCharacters(check);
        longWords(check);
        largeNumbers(check);
        meanings(check);
        check.finish();
    }

    private static void blanks(Check check) {
        check.sentence("TOKENS, with blanks (32) between as you like");
        check.dueGood("x=1+2", 3);
        check.dueGood(" x = 1 + 2 ", 3);
        check.dueGood(" ".repeat(43) + "x=1+2", 3);
        check.dueGood("x=1+2" + " ".repeat(43), 3);
        check.dueGood("x" + " ".repeat(21) + "=" + " ".repeat(21) + "1 +2", 3);
        check.dueGood("if1", 1);
        check.dueGood("cls-1", 2);
        check.dueGood("poke1,2", 2);
        check.dueGood("  else  ", 0);
        check.dueGood("x=min ( 1 , 2 )", 3);
        check.dueBad("el se", 3);
        check.dueBad("x=1 2", 4);
        check.dueBad("x=ab c", 5);
        check.dueBad("x=m in(1,2)", 4);
        check.dueBad("", 0);
        check.dueBad(" ", 1);
        check.dueBad(" ".repeat(48), 48);
    }

    private static void words(Check check) {
        check.sentence("a WORD, one or more letters a .. z, as long as they go");
        check.dueGood("a=z", 1);
        check.dueGood("abcdef=uvwxyz", 1);
        check.dueGood("ifx=1", 1);
        check.dueGood("elseif=1", 1);
        check.dueGood("x=minx", 1);
        check.dueBad("ifx", 3);
        check.dueBad("ends", 4);
        check.dueBad("x=minx(1,2)", 6);
        check.dueBad("elsex 1", 6);
        check.dueBad("a1=1", 1);
        check.dueBad("x=a1", 3);
        // The neighbours of a and z.
        check.dueBad("`=1", 0);
        check.dueBad("{=1", 0);
        check.dueBad("x=a`", 3);
        check.dueBad("x=z{", 3);
    }

    private static void numbers(Check check) {
        check.sentence("a NUMBER, one or more digits, as long as they go, and, if a '.' and a digit"
                + " follow, these and all further digits");
        for (int digit = 0; digit <= 9; digit++) {
            check.dueGood("x=" + digit, 1);
            check.dueGood("x=1." + digit, 1);
        }
        check.dueGood("x=12345", 1);
        check.dueGood("x=1.2345", 1);
        check.dueGood("x=12.5+5.21", 3);
        check.dueBad("x=1.", 3);
        check.dueBad("x=1.a", 3);
        check.dueBad("x=1.+2", 3);
        check.dueBad("x=1..5", 3);
        check.dueBad("x=1. 5", 3);
        check.dueBad("x=1 .5", 4);
        check.dueBad("x=.5", 2);
        check.dueBad("x=1.5.5", 5);
        check.dueBad("x=1.5 5", 6);
        check.dueBad("x=12a", 4);
        check.dueBad("x=1.5a", 5);
        // The neighbours of 0 and 9: '/' is a sign, ':' is no token.
        check.dueGood("x=1/1", 3);
        check.dueBad("x=9:", 3);
        check.dueBad("x=1.:", 3);
        check.dueBad("x=1./", 3);
        check.dueBad("x=" + "1.5".repeat(15), 6);
        // At the end of the text nothing follows, whatever stood there in the text before.
        check.dueBad("x=" + " ".repeat(44) + "1.", 47);
        check.dueGood("x=" + " ".repeat(43) + "1.5", 1);
        DotConsole console = new DotConsole();
        check.dueAdd("x=1.5", console, 1);
        check.dueAdd("x=1.", console, DotConsole.BAD);
        check.due("place", console.place(), 3);
    }

    private static void signs(Check check) {
        check.sentence("a SIGN, one of + - * / % < > = & | ! @ , ( ).");
        for (String join : "+ - * / % < > = & |".split(" ")) {
            check.dueGood("x=1" + join + "2", 3);
            check.dueBad("x=1" + join, 4);
            // Two signs are never one token.
            check.dueBad("x=1" + join + "=2", 4);
            if (!join.equals("-")) {
                check.dueBad("x=1" + join + join + "2", 4);
            }
        }
        check.dueGood("x=!1", 2);
        check.dueGood("x=@1", 2);
        check.dueGood("x=!!1", 3);
        check.dueGood("x=1--1", 4);
        check.dueGood("x=1>-1", 4);
        check.dueGood("poke 1,2", 2);
        check.dueGood("x=(1)", 1);
    }

    private static void otherCharacters(Check check) {
        check.sentence("Not a token: any other character");
        int others = 0;
        for (char c = 33; c <= 126; c++) {
            boolean isLetterOrDigit = c >= 'a' && c <= 'z' || c >= '0' && c <= '9';
            if (isLetterOrDigit || SIGNS.indexOf(c) >= 0) {
                continue;
            }
            others++;
            check.dueBad(c + "x=1", 0);
            check.dueBad("x" + c + "=1", 1);
            check.dueBad("x=" + c, 2);
            check.dueBad("x=1" + c, 3);
            check.dueBad("x=1  " + c + "1", 5);
            check.dueBad("else" + c, 4);
        }
        check.due("other characters", others, 95 - 1 - 26 - 10 - 15);
    }

    private static void longWords(Check check) {
        check.sentence("Not a token: a word of more than 6 letters");
        check.dueGood("abcdef=1", 1);
        check.dueBad("abcdefg=1", 0);
        check.dueGood("x=abcdef", 1);
        check.dueBad("x=abcdefg", 2);
        check.dueBad("x=1+abcdefg", 4);
        check.dueBad("x=1 abcdefg", 4);
        check.dueBad("elseelse", 0);
        check.dueBad("a".repeat(48), 0);
        check.dueBad("x=" + "a".repeat(46), 2);
        check.dueBad("else abcdefg", 5);
    }

    private static void largeNumbers(Check check) {
        check.sentence("Not a token: a number with more than 5 digits before or more than 4 behind the"
                + " '.', or more than 32767 before it");
        String[] good = {"00000", "00001", "32767", "32767.9999", "0.0000", "00000.0001", "9999.9999"};
        for (String number : good) {
            check.dueGood("x=" + number, 1);
        }
        String[] wrong = {"000000", "000001", "032767", "000001.5", "32768", "32768.0", "40000", "65536",
            "65537", "99999", "99999.9999", "0.00000", "1.00000", "1.23456", "4294967296", "4294967297",
            "1.4294967296", "1".repeat(46), "1." + "1".repeat(44), "0".repeat(46)};
        for (String number : wrong) {
            check.dueBad("x=" + number, 2);
        }
        check.dueBad("x=1+ 32768", 5);
        check.dueBad("x=1 32768", 4);
    }

    private static void meanings(Check check) {
        check.sentence("A number means digits before * 65536 + (digits behind * 65536) / 10 to the power"
                + " of how many they are (rounded down; 0 if there are none).");
        check.dueValue("0", 0);
        check.dueValue("00000", 0);
        check.dueValue("5", 5 * Check.ONE);
        check.dueValue("00005", 5 * Check.ONE);
        check.dueValue("32767", 32767 * Check.ONE);
        check.dueValue("5.0", 5 * Check.ONE);
        check.dueValue("5.0000", 5 * Check.ONE);
        check.dueValue("0.1", 6553);
        check.dueValue("0.01", 655);
        check.dueValue("0.001", 65);
        check.dueValue("0.0001", 6);
        check.dueValue("0.9", 58982);
        check.dueValue("0.99", 64880);
        check.dueValue("0.999", 65470);
        check.dueValue("0.9999", 65529);
        check.dueValue("0.5", 32768);
        check.dueValue("0.5000", 32768);
        check.dueValue("00005.0500", 5 * Check.ONE + 3276);
        check.dueValue("32767.9999", 32767 * Check.ONE + 65529);
    }
}
