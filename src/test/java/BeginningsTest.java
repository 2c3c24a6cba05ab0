import java.util.ArrayList;
import java.util.LinkedHashSet;
import java.util.List;
import java.util.Set;

/**
 * Promise 4 and the grammar of the terms, for every row of up to LONGEST tokens of a set with each
 * kind in it. What begins a statement is found from the rules as the document writes them, all ways
 * to read the tokens side by side, so that no rule is turned into code by hand.
 */
public final class BeginningsTest {
    private static final int LONGEST = 6;
    /** Each rule: what it makes, and behind the colon one way to make it. */
    private static final String[] RULES = {
        "statement: if E", "statement: else", "statement: while E", "statement: end", "statement: cls E",
        "statement: pset E , E , E", "statement: line E , E , E , E , E", "statement: box E , E , E , E , E",
        "statement: poke E , E", "statement: NAME = E",
        "E: A", "E: E | A", "A: C", "A: A & C", "C: S", "C: S < S", "C: S > S", "C: S = S",
        "S: T", "S: S + T", "S: S - T", "T: U", "T: T * U", "T: T / U", "T: T % U",
        "U: - U", "U: ! U", "U: @ U", "U: P", "P: number", "P: NAME", "P: ( E )",
        "P: abs ( E )", "P: flr ( E )", "P: btn ( E )", "P: btnp ( E )", "P: rnd ( E )",
        "P: min ( E , E )", "P: max ( E , E )", "P: pget ( E , E )"};
    /** Tokens, and one that is none. A number and a name stand for all of their kind. */
    private static final String[] TOKENS = {"1", "x", "if", "end", "cls", "pset", "poke", "abs", "min", "-",
        "+", "%", "<", "=", "&", "|", "@", ",", "(", ")", "#"};

    /** A rule read up to the dot, begun at a token. */
    private record Reading(String made, List<String> parts, int dot, int from) {
        String next() {
            return dot < parts.size() ? parts.get(dot) : "";
        }

        Reading further() {
            return new Reading(made, parts, dot + 1, from);
        }
    }

    private final Check check = new Check();
    private final int longest;
    private final List<String> tokens = new ArrayList<>();
    /** The readings that are still open in front of each token. */
    private final List<Set<Reading>> open = new ArrayList<>();

    private BeginningsTest(int longest) {
        this.longest = longest;
    }

    public static void main(String[] args) {
        BeginningsTest test = new BeginningsTest(args.length == 0 ? LONGEST : Integer.parseInt(args[0]));
        test.check.sentence("the first token (or what is not a token) such that the tokens up to it are not the"
                + " beginning of any statement; the text's length if all are one");
        Set<Reading> first = new LinkedHashSet<>();
        test.open.add(first);
        begin("statement", 0, first);
        test.complete(first, 0);
        test.tryAll();
        test.check.finish();
    }

    private static void begin(String made, int from, Set<Reading> into) {
        for (String rule : RULES) {
            if (rule.startsWith(made + ": ")) {
                into.add(new Reading(made, List.of(rule.substring(made.length() + 2).split(" ")), 0, from));
            }
        }
    }

    /** Adds what the readings expect next, and those that go on behind the ones that are done. */
    private void complete(Set<Reading> readings, int at) {
        int before = -1;
        while (before != readings.size()) {
            before = readings.size();
            for (Reading reading : List.copyOf(readings)) {
                if (!reading.next().isEmpty()) {
                    begin(reading.next(), at, readings);
                    continue;
                }
                for (Reading outer : List.copyOf(reading.from == at ? readings : open.get(reading.from))) {
                    if (outer.next().equals(reading.made)) {
                        readings.add(outer.further());
                    }
                }
            }
        }
    }

    private Set<Reading> readingsBehind(String token) {
        String kind = token.equals("1") ? "number" : token.equals("x") ? "NAME" : token;
        Set<Reading> readings = new LinkedHashSet<>();
        for (Reading reading : open.get(open.size() - 1)) {
            if (reading.next().equals(kind)) {
                readings.add(reading.further());
            }
        }
        complete(readings, open.size());
        return readings;
    }

    private void tryAll() {
        askForBeginning();
        for (int t = 0; t < TOKENS.length && tokens.size() < longest; t++) {
            Set<Reading> readings = readingsBehind(TOKENS[t]);
            if (readings.isEmpty()) {
                askForWrong(TOKENS[t]);
                continue;
            }
            tokens.add(TOKENS[t]);
            open.add(readings);
            tryAll();
            tokens.remove(tokens.size() - 1);
            open.remove(open.size() - 1);
        }
    }

    private void askForBeginning() {
        boolean isStatement = false;
        for (Reading reading : open.get(open.size() - 1)) {
            isStatement |= reading.made.equals("statement") && reading.next().isEmpty();
        }
        String text = String.join(" ", tokens);
        if (isStatement) {
            check.dueAdd(text, new DotConsole(), 1);
        } else {
            check.dueBad(text, text.length());
        }
    }

    /** The wrong token stands in front of one more, which must not move the place. */
    private void askForWrong(String wrong) {
        String before = tokens.isEmpty() ? "" : String.join(" ", tokens) + " ";
        check.dueBad(before + wrong, before.length());
        check.dueBad(before + wrong + " 1", before.length());
    }
}
