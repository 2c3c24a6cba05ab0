import java.math.BigInteger;
import java.util.ArrayList;
import java.util.Arrays;
import java.util.List;
import java.util.Set;

/**
 * The document once more, in another way: a grammar read by calls, nodes as a tree, exact whole
 * numbers, blocks run by calls. ModelTest compares the class with it.
 */
final class Model {
    private static final int REFUSED = -1;
    private static final int FULL = -2;
    private static final int BAD = -3;
    private static final BigInteger ONE = BigInteger.valueOf(65536);
    private static final List<String> STATEMENTS =
            List.of("if", "else", "while", "end", "cls", "pset", "line", "box", "poke");
    private static final Set<String> OF_ONE = Set.of("abs", "flr", "btn", "btnp", "rnd");
    private static final Set<String> OF_TWO = Set.of("min", "max", "pget");

    private record Token(String text, int place, boolean good) { }

    private record Node(String what, List<Node> parts) {
        int size() {
            int all = 1;
            for (Node part : parts) {
                all += part.size();
            }
            return all;
        }

        int depth() {
            int most = 0;
            for (Node part : parts) {
                most = Math.max(most, 1 + part.depth());
            }
            return most;
        }
    }

    private record Line(String what, String target, List<Node> parts) {
        int size() {
            return parts.stream().mapToInt(Node::size).sum();
        }
    }

    private static final class Wrong extends RuntimeException {
        private static final long serialVersionUID = 1L;
    }

    private static final class RanOut extends RuntimeException {
        private static final long serialVersionUID = 1L;
    }

    private static final class TooManySteps extends RuntimeException {
        private static final long serialVersionUID = 1L;
    }

    private String text = "";
    private int place = REFUSED;
    private final List<Line> lines = new ArrayList<>();
    private final List<String> names = new ArrayList<>();
    private boolean sealed;

    private int[] values = new int[12];
    private int[] cells = new int[32];
    private int[][] dots = new int[16][16];
    private long seed = 1;
    private final List<Integer> history = new ArrayList<>();
    private int steps;

    // The line that is being read.
    private List<Token> tokens = List.of();
    private int at;

    int feed(int character) {
        if (character < 32 || character > 126) {
            return REFUSED;
        }
        if (text.length() == 48) {
            return FULL;
        }
        text += (char) character;
        return text.length();
    }

    int add() {
        String typed = text;
        text = "";
        place = REFUSED;
        if (sealed) {
            return REFUSED;
        }
        List<Token> all = cut(typed);
        Line line = null;
        try {
            line = statement(all);
        } catch (Wrong | RanOut e) {
            place = firstWrong(all, typed.length());
            return BAD;
        }
        List<String> withNew = new ArrayList<>(names);
        if (line.target != null) {
            note(line.target, withNew);
        }
        for (Node part : line.parts) {
            noteAll(part, withNew);
        }
        boolean deep = line.parts.stream().anyMatch(part -> part.depth() > 5);
        if (line.size() > 16 || deep || lines.size() == 28 || withNew.size() > 12) {
            return FULL;
        }
        names.clear();
        names.addAll(withNew);
        lines.add(line);
        return lines.size();
    }

    private static void note(String name, List<String> into) {
        if (!into.contains(name)) {
            into.add(name);
        }
    }

    private static void noteAll(Node node, List<String> into) {
        if (isName(node.what)) {
            note(node.what, into);
        }
        for (Node part : node.parts) {
            noteAll(part, into);
        }
    }

    private static List<Token> cut(String typed) {
        List<Token> all = new ArrayList<>();
        java.util.regex.Matcher matcher = java.util.regex.Pattern
                .compile(" +|([a-z]+)|([0-9]+)(\\.[0-9]+)?|([-+*/%<>=&|!@,()])|.").matcher(typed);
        while (matcher.find()) {
            String found = matcher.group();
            if (found.isBlank()) {
                continue;
            }
            boolean good = matcher.group(4) != null;
            if (matcher.group(1) != null) {
                good = found.length() <= 6;
            }
            if (matcher.group(2) != null) {
                String before = matcher.group(2);
                String behind = matcher.group(3) == null ? "" : matcher.group(3).substring(1);
                good = before.length() <= 5 && behind.length() <= 4
                        && new BigInteger(before).compareTo(BigInteger.valueOf(32767)) <= 0;
            }
            all.add(new Token(found, matcher.start(), good));
        }
        return all;
    }

    /** The first token up to which the tokens are no beginning of a statement. */
    private int firstWrong(List<Token> all, int length) {
        for (int n = 1; n <= all.size(); n++) {
            try {
                statement(all.subList(0, n));
            } catch (RanOut e) {
                continue;
            } catch (Wrong e) {
                return all.get(n - 1).place;
            }
        }
        return length;
    }

    private Line statement(List<Token> given) {
        tokens = given;
        at = 0;
        String first = take();
        List<Node> parts = new ArrayList<>();
        String target = null;
        if (STATEMENTS.contains(first)) {
            int due = List.of(1, 0, 1, 0, 1, 3, 5, 5, 2).get(STATEMENTS.indexOf(first));
            for (int i = 0; i < due; i++) {
                if (i > 0) {
                    take(",");
                }
                parts.add(either());
            }
        } else if (isName(first)) {
            target = first;
            take("=");
            parts.add(either());
        } else {
            throw new Wrong();
        }
        if (at < tokens.size()) {
            throw new Wrong();
        }
        return new Line(target == null ? first : "=", target, parts);
    }

    private static boolean isName(String word) {
        return word.matches("[a-z]{1,6}") && !STATEMENTS.contains(word) && !OF_ONE.contains(word)
                && !OF_TWO.contains(word);
    }

    private String take() {
        if (at == tokens.size()) {
            throw new RanOut();
        }
        if (!tokens.get(at).good) {
            throw new Wrong();
        }
        return tokens.get(at++).text;
    }

    private void take(String want) {
        if (!take().equals(want)) {
            throw new Wrong();
        }
    }

    private boolean sees(String signs) {
        return at < tokens.size() && tokens.get(at).good && tokens.get(at).text.length() == 1
                && signs.contains(tokens.get(at).text);
    }

    private static Node node(String what, Node... parts) {
        return new Node(what, List.of(parts));
    }

    private Node either() {
        Node left = both();
        while (sees("|")) {
            left = node(take(), left, both());
        }
        return left;
    }

    private Node both() {
        Node left = compared();
        while (sees("&")) {
            left = node(take(), left, compared());
        }
        return left;
    }

    private Node compared() {
        Node left = sum();
        return sees("<>=") ? node(take(), left, sum()) : left;
    }

    private Node sum() {
        Node left = product();
        while (sees("+-")) {
            left = node(take(), left, product());
        }
        return left;
    }

    private Node product() {
        Node left = prefixed();
        while (sees("*/%")) {
            left = node(take(), left, prefixed());
        }
        return left;
    }

    private Node prefixed() {
        return sees("-!@") ? node(take(), prefixed()) : part();
    }

    private Node part() {
        String first = take();
        if (first.equals("(")) {
            Node inside = either();
            take(")");
            return inside;
        }
        if (OF_ONE.contains(first) || OF_TWO.contains(first)) {
            take("(");
            List<Node> parts = new ArrayList<>(List.of(either()));
            if (OF_TWO.contains(first)) {
                take(",");
                parts.add(either());
            }
            take(")");
            return new Node(first, parts);
        }
        if (isName(first) || Character.isDigit(first.charAt(0))) {
            return node(first);
        }
        throw new Wrong();
    }

    int place() {
        return place;
    }

    int seal() {
        if (sealed) {
            return REFUSED;
        }
        List<String> open = new ArrayList<>();
        for (int i = 0; i < lines.size(); i++) {
            String what = lines.get(i).what;
            String last = open.isEmpty() ? "" : open.get(open.size() - 1);
            if (what.equals("if") || what.equals("while")) {
                if (open.size() >= 4) {
                    return i + 1;
                }
                open.add(what);
            } else if (what.equals("else")) {
                if (!last.equals("if")) {
                    return i + 1;
                }
                open.set(open.size() - 1, "if with else");
            } else if (what.equals("end")) {
                if (open.isEmpty()) {
                    return i + 1;
                }
                open.remove(open.size() - 1);
            }
        }
        if (!open.isEmpty()) {
            return lines.size() + 1;
        }
        sealed = true;
        return 0;
    }

    int frame(int buttons) {
        if (buttons < 0 || buttons > 63 || !sealed) {
            return REFUSED;
        }
        history.add(buttons);
        steps = 0;
        try {
            run(0, lines.size());
        } catch (TooManySteps e) {
            return 1;
        }
        return 0;
    }

    private void run(int from, int to) {
        for (int i = from; i < to; i++) {
            Line line = lines.get(i);
            if (line.what.equals("if")) {
                int end = matching(i, false);
                int other = matching(i, true);
                if (works(line)) {
                    run(i + 1, Math.min(other, end));
                } else if (other < end) {
                    run(other + 1, end);
                }
                i = end;
            } else if (line.what.equals("while")) {
                int end = matching(i, false);
                while (works(line)) {
                    run(i + 1, end);
                }
                i = end;
            } else {
                step();
                done(line);
            }
        }
    }

    private int matching(int opener, boolean orElse) {
        int depth = 0;
        for (int i = opener; ; i++) {
            String what = lines.get(i).what;
            if (what.equals("if") || what.equals("while")) {
                depth++;
            } else if (what.equals("end") && --depth == 0 || orElse && what.equals("else") && depth == 1) {
                return i;
            }
        }
    }

    private void step() {
        if (steps == 300) {
            throw new TooManySteps();
        }
        steps++;
    }

    private boolean works(Line line) {
        step();
        return worth(line.parts.get(0)) != 0;
    }

    private void done(Line line) {
        int[] all = new int[line.parts.size()];
        for (int i = 0; i < all.length; i++) {
            all[i] = worth(line.parts.get(i));
        }
        int[] f = Arrays.stream(all).map(v -> Math.floorDiv(v, 65536)).toArray();
        int colour = Math.floorMod(f[f.length - 1], 16);
        switch (line.what) {
            case "=" -> values[names.indexOf(line.target)] = all[0];
            case "poke" -> {
                if (f[0] >= 0 && f[0] < 32) {
                    cells[f[0]] = all[1];
                }
            }
            case "cls" -> box(0, 0, 15, 15, colour);
            case "pset" -> box(f[0], f[1], f[0], f[1], colour);
            case "box" -> box(f[0], f[1], f[2], f[3], colour);
            default -> line(f[0], f[1], f[2], f[3], colour);
        }
    }

    private void box(int x, int y, int v, int w, int colour) {
        for (int row = 0; row < 16; row++) {
            for (int column = 0; column < 16; column++) {
                if (column >= Math.min(x, v) && column <= Math.max(x, v) && row >= Math.min(y, w)
                        && row <= Math.max(y, w)) {
                    dots[row][column] = colour;
                }
            }
        }
    }

    private void line(int x, int y, int v, int w, int colour) {
        int n = Math.max(Math.abs(v - x), Math.abs(w - y));
        for (int i = 0; n <= 40 && i <= n; i++) {
            int dx = n == 0 ? 0 : (int) Math.floor((double) (i * (v - x)) / n + 0.5 + 1e-9);
            int dy = n == 0 ? 0 : (int) Math.floor((double) (i * (w - y)) / n + 0.5 + 1e-9);
            box(x + dx, y + dy, x + dx, y + dy, colour);
        }
    }

    private int worth(Node node) {
        String what = node.what;
        if (isName(what)) {
            return values[names.indexOf(what)];
        }
        if (Character.isDigit(what.charAt(0))) {
            return new java.math.BigDecimal(what).multiply(new java.math.BigDecimal(65536)).intValue();
        }
        int x = worth(node.parts.get(0));
        if (node.parts.size() == 1) {
            return ofOne(what, x);
        }
        return ofTwo(what, x, worth(node.parts.get(1)));
    }

    private static int test(boolean holds) {
        return holds ? 65536 : 0;
    }

    private int ofOne(String what, int x) {
        int f = Math.floorDiv(x, 65536);
        return switch (what) {
            case "-" -> 0 - x;
            case "!" -> test(x == 0);
            case "@" -> f >= 0 && f < 32 ? cells[f] : 0;
            case "abs" -> BigInteger.valueOf(x).abs().intValue();
            case "flr" -> f * 65536;
            case "btn" -> test(framesDown(f) > 0);
            case "btnp" -> test(framesDown(f) == 1 || framesDown(f) > 8 && framesDown(f) % 4 == 1);
            default -> {
                seed = (seed * 1103515245L + 12345L) & 0xffffffffL;
                yield BigInteger.valueOf(seed / 65536).multiply(BigInteger.valueOf(x)).shiftRight(16).intValue();
            }
        };
    }

    private int framesDown(int button) {
        int k = 0;
        while (button >= 0 && button < 6 && k < history.size()
                && (history.get(history.size() - 1 - k) & 1 << button) != 0) {
            k++;
        }
        return k;
    }

    private int ofTwo(String what, int x, int y) {
        BigInteger a = BigInteger.valueOf(x);
        BigInteger b = BigInteger.valueOf(y);
        return switch (what) {
            case "|" -> x | y;
            case "&" -> x & y;
            case "<" -> test(x < y);
            case ">" -> test(x > y);
            case "=" -> test(x == y);
            case "+" -> a.add(b).intValue();
            case "-" -> a.subtract(b).intValue();
            case "*" -> a.multiply(b).shiftRight(16).intValue();
            case "/" -> y == 0 ? (x < 0 ? -2147483648 : 2147483647) : a.multiply(ONE).divide(b).intValue();
            case "%" -> y == 0 ? 0 : a.subtract(b.multiply(floorOf(a, b))).intValue();
            case "min" -> x < y ? x : y;
            case "max" -> x < y ? y : x;
            default -> {
                int dot = dot(Math.floorDiv(x, 65536), Math.floorDiv(y, 65536));
                yield dot == REFUSED ? 0 : dot * 65536;
            }
        };
    }

    private static BigInteger floorOf(BigInteger a, BigInteger b) {
        BigInteger[] both = a.divideAndRemainder(b);
        boolean below = both[1].signum() != 0 && both[1].signum() != b.signum();
        return below ? both[0].subtract(BigInteger.ONE) : both[0];
    }

    int restart() {
        values = new int[12];
        cells = new int[32];
        dots = new int[16][16];
        seed = 1;
        history.clear();
        steps = 0;
        return 0;
    }

    int dot(int x, int y) {
        return x < 0 || x > 15 || y < 0 || y > 15 ? REFUSED : dots[y][x];
    }

    int value(int k) {
        return k < 0 || k >= names.size() ? 0 : values[k];
    }

    int name(int k, int i) {
        if (k < 0 || k >= names.size() || i < 0 || i >= names.get(k).length()) {
            return REFUSED;
        }
        return names.get(k).charAt(i);
    }

    int cell(int i) {
        return i < 0 || i > 31 ? 0 : cells[i];
    }

    int nodes(int line) {
        return line < 1 || line > lines.size() ? REFUSED : lines.get(line - 1).size();
    }

    int count(int what) {
        return switch (what) {
            case 0 -> lines.size();
            case 1 -> text.length();
            case 2 -> names.size();
            case 3 -> history.size();
            case 4 -> steps;
            case 5 -> sealed ? 1 : 0;
            default -> REFUSED;
        };
    }
}
