/** 'Terms', sentence by sentence: statements, expressions and nodes. */
public final class GrammarEdgesTest {
    private static final String[] STATEMENTS =
            {"if", "else", "while", "end", "cls", "pset", "line", "box", "poke"};
    private static final int[] STATEMENT_PARTS = {1, 0, 1, 0, 1, 3, 5, 5, 2};
    private static final String[] BUILT_INS =
            {"abs", "flr", "btn", "btnp", "min", "max", "pget", "rnd"};
    private static final int[] BUILT_IN_PARTS = {1, 1, 1, 1, 2, 2, 2, 1};

    public static void main(String[] args) {
        Check check = new Check();
        names(check);
        statements(check);
        chains(check);
        tests(check);
        prefixes(check);
        brackets(check);
        builtIns(check);
        leftFirst(check);
        nodes(check);
        check.finish();
    }

    private static void names(Check check) {
        check.sentence("a NAME is a word that is none of the words named here");
        for (String word : STATEMENTS) {
            check.dueBad(word + "=1", word.length());
            check.dueBad("x=" + word, 2);
            check.dueBad("x=1+" + word, 4);
        }
        for (String word : BUILT_INS) {
            check.dueBad(word + "=1", 0);
            check.dueBad("x=" + word, 2 + word.length());
            check.dueBad("x=" + word + "+1", 2 + word.length());
        }
        String[] near = {"i", "ifs", "els", "elses", "whil", "whiles", "en", "ends", "cl", "clss", "pse",
            "psets", "lin", "lines", "bo", "boxs", "pok", "pokes", "ab", "abss", "fl", "flrs", "bt",
            "btns", "btnps", "mi", "mins", "ma", "maxs", "pge", "pgets", "rn", "rnds", "fi", "dne"};
        for (String word : near) {
            check.dueGood(word + "=" + word, 1);
        }
    }

    /** So many ones with commas between. */
    private static String ones(int parts) {
        return parts == 0 ? "" : "1" + ",1".repeat(parts - 1);
    }

    private static void statements(Check check) {
        check.sentence("if E, else, while E, end, cls E, pset E , E , E, line E , E , E , E , E,"
                + " box E , E , E , E , E, poke E , E, and NAME = E.");
        for (int i = 0; i < STATEMENTS.length; i++) {
            int parts = STATEMENT_PARTS[i];
            String word = STATEMENTS[i] + " ";
            check.dueGood(word + ones(parts), parts);
            String more = word + ones(parts) + (parts == 0 ? "1" : ",1");
            check.dueBad(more, parts == 0 ? word.length() : more.length() - 2);
            for (int fewer = 0; fewer < parts; fewer++) {
                check.dueBad(word + ones(fewer), word.length() + ones(fewer).length());
                String open = word + "1,".repeat(fewer);
                check.dueBad(open, open.length());
                check.dueBad(open + ",", open.length());
            }
        }
        check.dueGood("x=1", 1);
        check.dueBad("x", 1);
        check.dueBad("x=", 2);
        check.dueBad("x=1,1", 3);
        check.dueBad("=1", 0);
        check.dueBad("1=x", 0);
        check.dueBad("x 1", 2);
        check.dueBad("x y=1", 2);
        check.dueBad("x=1 y=1", 4);
        check.dueBad("x+1", 1);
        check.dueBad("(x)=1", 0);
        check.dueBad("if 1 x=1", 5);
        check.dueBad("else end", 5);
        check.dueBad("end end", 4);
    }

    private static void chains(Check check) {
        String[][] rules = {
            {"E: one A, or more with | between.", "|"},
            {"A: one C, or more with & between.", "&"},
            {"S: one T, or more with + or - between.", "+ -"},
            {"T: one U, or more with * / % between.", "* / %"},
        };
        for (String[] rule : rules) {
            check.sentence(rule[0]);
            for (String sign : rule[1].split(" ")) {
                check.dueGood("x=1", 1);
                check.dueGood("x=1" + sign + "2", 3);
                check.dueGood("x=1" + sign + "2" + sign + "3" + sign + "4", 7);
                check.dueBad("x=1" + sign, 4);
                check.dueBad("x=1" + sign + ")", 4);
                check.dueBad("x=1" + sign + ",", 4);
                check.dueBad("x=1" + sign + "*2", 4);
                if (!sign.equals("-")) {
                    check.dueBad("x=" + sign + "1", 2);
                    check.dueBad("x=1" + sign + sign + "1", 4);
                }
            }
        }
    }

    private static void tests(Check check) {
        check.sentence("C: an S, or an S, one of < > =, an S.");
        String[] signs = {"<", ">", "="};
        for (String one : signs) {
            check.dueGood("x=1" + one + "2", 3);
            check.dueGood("x=1+2" + one + "3*4", 7);
            check.dueBad("x=" + one + "1", 2);
            check.dueBad("x=1" + one, 4);
            for (String other : signs) {
                check.dueBad("x=1" + one + "2" + other + "3", 5);
                check.dueBad("x=1" + one + "2+3" + other + "4", 7);
                check.dueBad("if (1" + one + "2" + other + "3)", 7);
                check.dueBad("x=abs(1" + one + "2" + other + "3)", 9);
                check.dueGood("x=(1" + one + "2)" + other + "3", 5);
                check.dueGood("x=1" + one + "(2" + other + "3)", 5);
                check.dueGood("x=1" + one + "2&3" + other + "4", 7);
                check.dueGood("x=1" + one + "2|3" + other + "4", 7);
                check.dueGood("poke 1" + one + "2,3" + other + "4", 6);
                check.dueGood("x=min(1" + one + "2,3" + other + "4)", 7);
            }
        }
    }

    private static void prefixes(Check check) {
        check.sentence("U: - U, or ! U, or @ U, or P.");
        for (String sign : new String[] {"-", "!", "@"}) {
            check.dueGood("x=" + sign + "1", 2);
            check.dueGood("x=" + sign + "y", 2);
            check.dueGood("x=" + sign + "(1)", 2);
            check.dueGood("x=" + sign + "abs(1)", 3);
            check.dueGood("x=1*" + sign + "1", 4);
            check.dueGood("x=1<" + sign + "1", 4);
            check.dueBad("x=" + sign, 3);
            check.dueBad("x=" + sign + ")", 3);
            check.dueBad("x=" + sign + "+1", 3);
            for (String other : new String[] {"-", "!", "@"}) {
                check.dueGood("x=" + sign + other + "1", 3);
            }
        }
        check.dueBad("x=1!", 3);
        check.dueBad("x=1!1", 3);
        check.dueBad("x=1@1", 3);
        check.dueBad("x=+1", 2);
    }

    private static void brackets(Check check) {
        check.sentence("P: a number, a NAME, ( E ), or a BUILT-IN");
        check.dueGood("x=1", 1);
        check.dueGood("x=y", 1);
        check.dueGood("x=(1)", 1);
        check.dueGood("x=" + "(".repeat(22) + "1" + ")".repeat(22), 1);
        check.dueGood("x=(1|2&3<4+5*6)", 11);
        check.dueBad("x=()", 3);
        check.dueBad("x=(", 3);
        check.dueBad("x=(1", 4);
        check.dueBad("x=(1))", 5);
        check.dueBad("x=)", 2);
        check.dueBad("x=(1,1)", 4);
        check.dueBad("x=(1)1", 5);
        check.dueBad("x=(1)(1)", 5);
        check.dueBad("x=1(1)", 3);
        check.dueBad("x=y(1)", 3);
        check.dueBad("x=1 1", 4);
        check.dueBad("x=y y", 4);
        check.dueBad("poke (1,1)", 7);
        check.dueBad("x=" + "(".repeat(46), 48);
        check.dueBad("x=" + "(".repeat(45) + ")", 47);
    }

    private static void builtIns(Check check) {
        check.sentence("abs ( E ), flr ( E ), btn ( E ), btnp ( E ), min ( E , E ), max ( E , E ),"
                + " pget ( E , E ), rnd ( E ).");
        for (int i = 0; i < BUILT_INS.length; i++) {
            int parts = BUILT_IN_PARTS[i];
            String open = "x=" + BUILT_INS[i] + "(";
            check.dueGood(open + ones(parts) + ")", 1 + parts);
            check.dueBad(open + ones(parts) + ",1)", open.length() + ones(parts).length());
            check.dueBad(open + ones(parts), open.length() + ones(parts).length());
            for (int fewer = 0; fewer < parts; fewer++) {
                check.dueBad(open + ones(fewer) + ")", open.length() + ones(fewer).length());
                String comma = open + "1,".repeat(fewer);
                check.dueBad(comma, comma.length());
                check.dueBad(comma + ",", comma.length());
                check.dueBad(comma + ")", comma.length());
            }
            String bare = "x=" + BUILT_INS[i];
            check.dueBad(bare, bare.length());
            check.dueBad(bare + " 1", bare.length() + 1);
            check.dueBad(bare + ")", bare.length());
            check.dueBad("x=1" + BUILT_INS[i] + "(1)", 3);
        }
        check.dueBad("x=min((1,2),3)", 8);
        check.dueGood("x=min(min(1,2),max(3,4))", 7);
    }

    private static void leftFirst(Check check) {
        check.sentence("With more between, the left two are done first.");
        check.dueValue("9-3-2", 4 * Check.ONE);
        check.dueValue("9-3+2", 8 * Check.ONE);
        check.dueValue("9+3-2-1", 9 * Check.ONE);
        check.dueValue("16/4/2", 2 * Check.ONE);
        check.dueValue("16/4*2", 8 * Check.ONE);
        check.dueValue("7%4*2", 6 * Check.ONE);
        check.dueValue("7*4%5", 3 * Check.ONE);
        check.dueValue("20%12%5", 3 * Check.ONE);
        check.dueValue("9-2*3-1", 2 * Check.ONE);
        // What is further left is inside of more others.
        for (String sign : "| & + - * / %".split(" ")) {
            check.dueGood("x=1" + (sign + "1").repeat(5), 11);
            check.dueFull("x=1" + (sign + "1").repeat(6));
            check.dueFull("x=-1" + (sign + "1").repeat(5));
            check.dueGood("x=1" + (sign + "1").repeat(4) + sign + "----1", 15);
        }
    }

    private static void nodes(Check check) {
        check.sentence("NODES of a line: one for each number, name (not that before '='), built-in, and"
                + " operator | & < > = + - * / % ! @ in its expressions.");
        check.dueGood("else", 0);
        check.dueGood("end", 0);
        check.dueGood("x=x", 1);
        check.dueGood("x=x+x", 3);
        check.dueGood("x=1=1", 3);
        check.dueGood("x=((1))", 1);
        check.dueGood("x=12345.1234", 1);
        check.dueGood("if abcdef", 1);
        check.dueGood("cls 1", 1);
        check.dueGood("line 1,2,3,4,5", 5);
        check.dueGood("box a,a,a,a,a", 5);
        check.dueGood("x=abs(1)", 2);
        check.dueGood("x=min(1,2)", 3);
        check.dueGood("x=-1", 2);
        check.dueGood("x=1-1", 3);
        check.dueGood("x=!@-1", 4);
        check.dueGood("x=1|2&3<4+5*6", 11);
        check.dueGood("x=1|2&3>4-5/6", 11);
        check.dueGood("x=1|2&3=4-5%6", 11);
    }
}
