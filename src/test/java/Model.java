import java.math.BigInteger;
import java.util.ArrayDeque;
import java.util.ArrayList;
import java.util.Arrays;
import java.util.HashMap;
import java.util.LinkedHashMap;
import java.util.List;
import java.util.Map;
import java.util.NoSuchElementException;
import java.util.TreeMap;

/** The document told a second time: by trees, maps and trying all ways, slow and plain. */
public final class Model {
    private static final class Fault extends RuntimeException {
        private static final long serialVersionUID = 1;
        final int kind;
        final int place;

        Fault(int kind, int place) {
            this.kind = kind;
            this.place = place;
        }
    }

    /** What a text is cut into; the kind is 'n' a number, 'w' a word, 's' a sign, 'e' the end. */
    private record Token(char kind, int place, String text) {
        boolean is(String sign) {
            return kind != 'e' && text.equals(sign);
        }
    }

    private static final class Reader {
        final List<Token> tokens = new ArrayList<>();
        int next = 0;

        Reader(String text) {
            int i = 0;
            while (i < text.length()) {
                char c = text.charAt(i);
                int from = i;
                if (c == ' ') {
                    i++;
                } else if (c >= '0' && c <= '9') {
                    while (i < text.length() && text.charAt(i) >= '0' && text.charAt(i) <= '9') {
                        i++;
                    }
                    tokens.add(new Token('n', from, text.substring(from, i)));
                } else if (c >= 'a' && c <= 'z') {
                    while (i < text.length() && text.charAt(i) >= 'a' && text.charAt(i) <= 'z') {
                        i++;
                    }
                    tokens.add(new Token('w', from, text.substring(from, i)));
                } else {
                    i++;
                    tokens.add(new Token('s', from, text.substring(from, i)));
                }
            }
            tokens.add(new Token('e', text.length(), ""));
        }

        Token peek() {
            return tokens.get(next);
        }

        Token take() {
            Token token = peek();
            next = Math.min(next + 1, tokens.size() - 1);
            return token;
        }

        boolean ends() {
            return peek().kind() == 'e';
        }

        void sign(String sign) {
            Token token = take();
            if (!token.is(sign)) {
                throw new Fault(1, token.place());
            }
        }

        int number(int low, int high) {
            Token token = take();
            if (token.kind() != 'n') {
                throw new Fault(1, token.place());
            }
            BigInteger value = new BigInteger(token.text());
            if (value.compareTo(BigInteger.valueOf(low)) < 0 || value.compareTo(BigInteger.valueOf(high)) > 0) {
                throw new Fault(2, token.place());
            }
            return value.intValue();
        }
    }

    private interface Expr {
        int value(Map<String, Integer> facts);
    }

    private interface Joint {
        int of(int a, int b);
    }

    private record StepNode(String word, int[] numbers, List<StepNode> inside) {
    }

    private static final class State {
        List<int[]> told = new ArrayList<>();
        List<Integer> order = new ArrayList<>();
        List<Boolean> turned = new ArrayList<>();
        int rivet = 99;
        int wear;
        int pots = 20;
        int season;
        int opened;
        int view = -1;
        int wide;

        State copy() {
            State s = new State();
            for (int[] marks : told) {
                s.told.add(marks.clone());
            }
            s.order.addAll(order);
            s.turned.addAll(turned);
            s.rivet = rivet;
            s.wear = wear;
            s.pots = pots;
            s.season = season;
            s.opened = opened;
            s.view = view;
            s.wide = wide;
            return s;
        }

        int[] lying(int stick) {
            int[] m = told.get(stick);
            return turned.get(stick) ? new int[] {m[3], m[2], m[1], m[0]} : m;
        }

        List<Integer> row(int v) {
            List<Integer> row = new ArrayList<>();
            for (int stick : order) {
                row.add(lying(stick)[v]);
            }
            if (v >= 2) {
                java.util.Collections.reverse(row);
            }
            return row;
        }

        int overBits() {
            int bits = 0;
            for (int i = 0; i < turned.size(); i++) {
                bits += turned.get(i) ? 1 << i : 0;
            }
            return bits;
        }
    }

    private record Kept(State state, List<State> before) {
    }

    private static final class Stop extends RuntimeException {
        private static final long serialVersionUID = 1;
    }

    private final StringBuilder tape = new StringBuilder();
    private State now = new State();
    private List<State> before = new ArrayList<>();
    private final ArrayDeque<Kept> images = new ArrayDeque<>();
    private Expr rule = facts -> facts.get("wide");
    private final List<List<Integer>> pictures = new ArrayList<>(List.of(List.of(), List.of()));
    private List<int[]> lines = new ArrayList<>();
    private int faultPlace = -1;
    private int refusedSteps;
    private final int[] refusals = new int[2];
    private int begun;
    private int done;

    private void allow(boolean fine) {
        if (!fine) {
            refusals[1]++;
            throw new IllegalArgumentException();
        }
    }

    private void demand(boolean fine) {
        if (!fine) {
            refusals[0]++;
            throw new NoSuchElementException();
        }
    }

    private interface Reading {
        int read(Reader reader);
    }

    private int reading(int n, Reading reading) {
        String text = tape.substring(0, n);
        tape.setLength(0);
        faultPlace = -1;
        try {
            return reading.read(new Reader(text));
        } catch (Fault fault) {
            faultPlace = fault.place;
            return fault.kind - 10;
        }
    }

    public int feed(int a, int b, int c, int d, int e) {
        if (tape.length() > 580) {
            return -1;
        }
        for (int one : new int[] {a, b, c, d, e}) {
            for (byte x : BigInteger.valueOf(one & 0xffffffffL | 0x100000000L).toByteArray()) {
                tape.append((char) (x & 255));
            }
            tape.deleteCharAt(tape.length() - 5);
        }
        return tape.length();
    }

    public int fan(int n) {
        allow(n >= 0 && n <= tape.length());
        return reading(n, reader -> {
            State s = new State();
            for (int clauses = 0; !reader.ends(); clauses++) {
                Token word = reader.take();
                if (!word.is("stick") && !word.is("rivet") && !word.is("paint")) {
                    throw new Fault(1, word.place());
                }
                if (clauses == 60 || word.is("stick") && s.told.size() == 7) {
                    throw new Fault(3, word.place());
                }
                if (word.is("stick")) {
                    s.order.add(s.told.size());
                    s.turned.add(false);
                    s.told.add(new int[] {reader.number(0, 15), reader.number(0, 15), reader.number(0, 15),
                        reader.number(0, 15)});
                } else if (word.is("rivet")) {
                    s.rivet = reader.number(1, 200);
                } else {
                    s.pots = reader.number(0, 99);
                }
                reader.sign(";");
            }
            now = s;
            before.clear();
            images.clear();
            rule = facts -> facts.get("wide");
            pictures.set(0, List.of());
            pictures.set(1, List.of());
            lines.clear();
            refusedSteps = 0;
            return s.told.size();
        });
    }

    public int law(int n) {
        allow(n >= 0 && n <= 150 && n <= tape.length());
        return reading(n, reader -> {
            Expr e = sum(reader, 0);
            if (!reader.ends()) {
                throw new Fault(1, reader.peek().place());
            }
            rule = e;
            return 1;
        });
    }

    private static Expr joined(Joint joint, Expr a, Expr b) {
        return facts -> joint.of(a.value(facts), b.value(facts));
    }

    private static Expr sum(Reader reader, int open) {
        Expr left = product(reader, open);
        while (reader.peek().is("+") || reader.peek().is("-")) {
            boolean plus = reader.take().is("+");
            left = joined(plus ? (a, b) -> a + b : (a, b) -> a - b, left, product(reader, open));
        }
        return left;
    }

    private static Expr product(Reader reader, int open) {
        Expr left = unit(reader, open);
        while (reader.peek().is("*") || reader.peek().is("/") || reader.peek().is("%")) {
            String sign = reader.take().text();
            Joint joint = switch (sign) {
                case "*" -> (a, b) -> (int) ((long) a * b);
                case "/" -> (a, b) -> b == 0 ? 0 : (int) ((long) a / b);
                default -> (a, b) -> b == 0 ? 0 : (int) ((long) a % b);
            };
            left = joined(joint, left, unit(reader, open));
        }
        return left;
    }

    private static Expr unit(Reader reader, int open) {
        Token token = reader.peek();
        if (token.kind() == 'n') {
            int value = reader.number(0, 999);
            return facts -> value;
        }
        reader.take();
        if (token.is("(") || token.is("least") || token.is("most")) {
            if (open == 6) {
                throw new Fault(3, token.place());
            }
            if (token.is("(")) {
                Expr inside = sum(reader, open + 1);
                reader.sign(")");
                return inside;
            }
            reader.sign("[");
            Expr a = sum(reader, open + 1);
            reader.sign(",");
            Expr b = sum(reader, open + 1);
            reader.sign("]");
            return joined(token.is("least") ? Math::min : Math::max, a, b);
        }
        if (!List.of("view", "wide", "wear", "opened", "turned", "pots", "season").contains(token.text())) {
            throw new Fault(1, token.place());
        }
        return facts -> facts.get(token.text());
    }

    private int strained(int view, int wide, int wear, int opened, int turned, int pots, int season) {
        Map<String, Integer> facts = new HashMap<>();
        facts.put("view", view);
        facts.put("wide", wide);
        facts.put("wear", wear);
        facts.put("opened", opened);
        facts.put("turned", turned);
        facts.put("pots", pots);
        facts.put("season", season);
        int value = rule.value(facts);
        return value < 0 ? 0 : value > 60 ? 60 : value;
    }

    private int strainNow(State s, int view, int wide) {
        int turned = Integer.bitCount(s.overBits());
        return strained(view, wide, s.wear, s.opened, turned, s.pots, s.season);
    }

    private boolean open(State s, int view, int wide) {
        int strain = strainNow(s, view, wide);
        if (s.view >= 0 || wide > s.told.size() || s.wear + strain > s.rivet) {
            return false;
        }
        s.wear += strain;
        s.opened++;
        s.view = view;
        s.wide = wide;
        return true;
    }

    private static void seasonBy(State s) {
        s.wear = s.wear < 3 ? 0 : s.wear - 3;
        s.pots = s.pots > 97 ? 99 : s.pots + 2;
        s.season++;
    }

    /** Does a STEP; false, if it is REFUSED. */
    private boolean step(State s, String word, int[] x) {
        switch (word) {
            case "open":
                return open(s, x[0], x[1]);
            case "shut":
                boolean wasOpen = s.view >= 0;
                s.view = -1;
                s.wide = 0;
                return wasOpen;
            case "swap":
                if (s.view >= 0 || x[0] == x[1]) {
                    return false;
                }
                java.util.Collections.swap(s.order, x[0], x[1]);
                return true;
            case "turn":
                if (s.view >= 0) {
                    return false;
                }
                int stick = s.order.get(x[0]);
                s.turned.set(stick, !s.turned.get(stick));
                return true;
            case "paint":
                int painted = s.order.get(x[0]);
                if (s.pots == 0 || s.lying(painted)[x[1]] == x[2]) {
                    return false;
                }
                s.told.get(painted)[s.turned.get(painted) ? 3 - x[1] : x[1]] = x[2];
                s.pots--;
                return true;
            case "oil":
                boolean worn = s.wear > 0;
                s.wear = s.wear / 2;
                return worn;
            default:
                if (s.season >= 400) {
                    return false;
                }
                seasonBy(s);
                return true;
        }
    }

    public int work(int n) {
        allow(n >= 0 && n <= 150 && n <= tape.length());
        if (before.size() == 16) {
            tape.setLength(0);
            faultPlace = -1;
            return -20;
        }
        return reading(n, reader -> {
            List<StepNode> steps = steps(reader, 0);
            if (!reader.ends()) {
                throw new Fault(1, reader.peek().place());
            }
            before.add(now.copy());
            begun = 0;
            done = 0;
            refusedSteps = 0;
            try {
                doSteps(steps);
            } catch (Stop stop) {
                begun = 0;
            }
            return done;
        });
    }

    private List<StepNode> steps(Reader reader, int open) {
        List<StepNode> steps = new ArrayList<>();
        int last = now.told.size() - 1;
        while (!reader.ends() && !reader.peek().is("]")) {
            Token word = reader.take();
            int[] x;
            switch (word.text()) {
                case "open":
                    x = new int[] {reader.number(0, 3), reader.number(1, 7)};
                    break;
                case "swap":
                    x = new int[] {reader.number(0, last), reader.number(0, last)};
                    break;
                case "turn":
                    x = new int[] {reader.number(0, last)};
                    break;
                case "paint":
                    x = new int[] {reader.number(0, last), reader.number(0, 3), reader.number(0, 15)};
                    break;
                case "shut", "oil", "season":
                    x = new int[0];
                    break;
                case "again":
                    if (open == 6) {
                        throw new Fault(3, word.place());
                    }
                    x = new int[] {reader.number(0, 40)};
                    break;
                default:
                    throw new Fault(1, word.place());
            }
            List<StepNode> inside = List.of();
            if (word.is("again")) {
                reader.sign("[");
                inside = steps(reader, open + 1);
                reader.sign("]");
            }
            steps.add(new StepNode(word.text(), x, inside));
            reader.sign(";");
        }
        return steps;
    }

    private void doSteps(List<StepNode> steps) {
        for (StepNode node : steps) {
            if (begun == 200) {
                throw new Stop();
            }
            begun++;
            if (node.word().equals("again")) {
                for (int i = 0; i < node.numbers()[0]; i++) {
                    doSteps(node.inside());
                }
            } else if (step(now, node.word(), node.numbers())) {
                done++;
            } else {
                refusedSteps++;
            }
        }
    }

    public int picture(int n, int which) {
        allow(n >= 0 && n <= 60 && n <= tape.length() && (which == 0 || which == 1));
        return reading(n, reader -> {
            List<Integer> marks = new ArrayList<>();
            while (!reader.ends()) {
                int place = reader.peek().place();
                int mark = reader.number(0, 16);
                if (marks.size() == 7) {
                    throw new Fault(3, place);
                }
                marks.add(mark);
                reader.sign(";");
            }
            pictures.set(which, marks);
            return marks.size();
        });
    }

    public int book(int n) {
        allow(n >= 0 && n <= 60 && n <= tape.length());
        return reading(n, reader -> {
            List<int[]> read = new ArrayList<>();
            while (!reader.ends()) {
                int place = reader.peek().place();
                int view = reader.number(0, 3);
                if (read.size() == 7) {
                    throw new Fault(3, place);
                }
                read.add(new int[] {view, reader.number(0, 6), reader.number(0, 15)});
                reader.sign(";");
            }
            lines = read;
            return read.size();
        });
    }

    public int fault() {
        return faultPlace;
    }

    public int undo() {
        if (before.isEmpty()) {
            return -1;
        }
        now = before.remove(before.size() - 1);
        refusedSteps = 0;
        return before.size();
    }

    public int told(int what) {
        allow(what >= 0 && what <= 12);
        return List.of(now.told.size(), now.rivet, now.wear, now.pots, now.season, now.opened, now.overBits(),
                now.view, now.wide, lines.size()).size() > what
                ? List.of(now.told.size(), now.rivet, now.wear, now.pots, now.season, now.opened, now.overBits(),
                now.view, now.wide, lines.size()).get(what)
                : List.of(refusedSteps, pictures.get(0).size(), pictures.get(1).size()).get(what - 10);
    }

    public int stick(int stick, int what) {
        demand(stick >= 0 && stick < now.told.size());
        allow(what >= 0 && what <= 6);
        if (what == 0) {
            return now.order.indexOf(stick);
        }
        if (what == 1) {
            return now.turned.get(stick) ? 1 : 0;
        }
        if (what < 6) {
            return now.lying(stick)[what - 2];
        }
        int bits = 0;
        for (int i = 0; i < now.told.size(); i++) {
            bits += i != stick && Arrays.equals(now.lying(i), now.lying(stick)) ? 1 << i : 0;
        }
        return bits;
    }

    public int at(int place) {
        demand(place >= 0 && place < now.told.size());
        return now.order.get(place);
    }

    private void allowView(int view) {
        allow(view >= 0 && view <= 3);
    }

    public int strain(int view, int n) {
        allow(view >= 0 && view <= 3 && n >= 1 && n <= 7);
        return strainNow(now, view, n);
    }

    public int would(int view, int wide, int wear, int opened, int turned, int pots, int season) {
        allow(view >= 0 && view <= 3 && wide >= 1 && wide <= 7 && wear >= 0 && wear <= 200 && opened >= 0
                && opened <= 9999 && turned >= 0 && turned <= 7 && pots >= 0 && pots <= 99 && season >= 0
                && season <= 400);
        return strained(view, wide, wear, opened, turned, pots, season);
    }

    public int mark(int view, int k) {
        allow(view >= 0 && view <= 3 && k >= 0);
        return k < now.told.size() ? now.row(view).get(k) : -1;
    }

    public int seen(int k) {
        allow(k >= 0);
        return now.view >= 0 && k < now.wide ? now.row(now.view).get(k) : -1;
    }

    public int marks(int view) {
        allowView(view);
        return now.row(view).stream().distinct().mapToInt(m -> 1 << m).sum();
    }

    private static boolean showing(List<Integer> row, List<Integer> picture) {
        return row.size() >= picture.size() && differing(row, picture) == 0;
    }

    private static int differing(List<Integer> row, List<Integer> picture) {
        int unlike = 0;
        for (int k = 0; k < Math.min(row.size(), picture.size()); k++) {
            unlike += picture.get(k) == 16 || picture.get(k).equals(row.get(k)) ? 0 : 1;
        }
        return unlike;
    }

    public boolean shows(int view) {
        allowView(view);
        return showing(now.row(view), pictures.get(0));
    }

    /** All ways in their order: STATES with other orders and turnings, by PLACE, STICK, as told first. */
    private List<State> allWays() {
        List<State> ways = new ArrayList<>();
        State blank = now.copy();
        blank.order = new ArrayList<>();
        extend(blank, ways);
        return ways;
    }

    private void extend(State part, List<State> ways) {
        if (part.order.size() == now.told.size()) {
            State way = part.copy();
            way.told = now.told;
            ways.add(way);
            return;
        }
        for (int stick = 0; stick < now.told.size(); stick++) {
            if (part.order.contains(stick)) {
                continue;
            }
            part.order.add(stick);
            for (boolean turned : new boolean[] {false, true}) {
                part.turned.set(stick, turned);
                extend(part, ways);
            }
            part.order.remove(part.order.size() - 1);
        }
    }

    private List<State> laysOf(int view) {
        return allWays().stream().filter(way -> showing(way.row(view), pictures.get(0))).toList();
    }

    public int lays(int view) {
        allowView(view);
        return laysOf(view).size();
    }

    public int laid(int view, int place) {
        demand(place >= 0 && place < now.told.size());
        allowView(view);
        List<State> lays = laysOf(view);
        if (lays.isEmpty()) {
            return -1;
        }
        int stick = lays.get(0).order.get(place);
        return 2 * stick + (lays.get(0).turned.get(stick) ? 1 : 0);
    }

    public int both(int view, int other) {
        allow(view >= 0 && view <= 3 && other >= 0 && other <= 3);
        return (int) laysOf(view).stream().filter(way -> showing(way.row(other), pictures.get(1))).count();
    }

    public int brush(int view) {
        allowView(view);
        if (pictures.get(0).size() > now.told.size()) {
            return -1;
        }
        return allWays().stream().mapToInt(way -> differing(way.row(view), pictures.get(0))).min().orElse(-1);
    }

    /** Goes from how it lies in rounds of one swap or turn more, until a LAY comes up. */
    public int near(int view) {
        allowView(view);
        Map<String, State> reached = new LinkedHashMap<>();
        ArrayDeque<State> front = new ArrayDeque<>();
        Map<String, Integer> moves = new HashMap<>();
        State start = now.copy();
        start.view = -1;
        front.add(start);
        reached.put(start.order + "" + start.turned, start);
        moves.put(start.order + "" + start.turned, 0);
        while (!front.isEmpty()) {
            State s = front.remove();
            int far = moves.get(s.order + "" + s.turned);
            if (showing(s.row(view), pictures.get(0))) {
                return far;
            }
            for (int change : changes()) {
                State t = s.copy();
                change(t, change);
                String key = t.order + "" + t.turned;
                if (reached.putIfAbsent(key, t) == null) {
                    moves.put(key, far + 1);
                    front.add(t);
                }
            }
        }
        return -1;
    }

    private List<Integer> changes() {
        List<Integer> changes = new ArrayList<>();
        for (int p = 0; p < now.told.size(); p++) {
            changes.add(p);
        }
        for (int p = 0; p < now.told.size(); p++) {
            for (int q = p + 1; q < now.told.size(); q++) {
                changes.add(100 + 10 * p + q);
            }
        }
        return changes;
    }

    private void change(State s, int change) {
        s.view = -1;
        if (change < 100) {
            step(s, "turn", new int[] {change});
        } else {
            step(s, "swap", new int[] {change / 10 % 10, change % 10});
        }
    }

    public int lot(int view, int half) {
        allow(view >= 0 && view <= 3 && (half == 0 || half == 1));
        BigInteger above = BigInteger.valueOf(laysOf(view).size());
        BigInteger below = BigInteger.valueOf(allWays().size());
        return (half == 0 ? above : below).divide(above.gcd(below)).intValue();
    }

    public int off(int view) {
        allowView(view);
        return differing(now.row(view), pictures.get(0));
    }

    public int run(int view, int what) {
        allow(view >= 0 && view <= 3 && (what == 0 || what == 1));
        List<Integer> row = now.row(view);
        for (int length = row.size(); length > 0; length--) {
            for (int from = 0; from + length <= row.size(); from++) {
                if (row.subList(from, from + length).stream().distinct().count() == 1) {
                    return what == 0 ? length : row.get(from);
                }
            }
        }
        return what == 0 ? 0 : -1;
    }

    public int even() {
        int bits = 0;
        for (int view = 0; view < 4; view++) {
            List<Integer> back = new ArrayList<>(now.row(view));
            java.util.Collections.reverse(back);
            bits += back.equals(now.row(view)) ? 1 << view : 0;
        }
        return bits;
    }

    /** How it would lie by each of FITS. */
    private Map<Integer, State> fitting() {
        Map<Integer, State> fits = new TreeMap<>();
        for (int change : changes()) {
            State s = now.copy();
            change(s, change);
            if (lines.stream().allMatch(line -> line[1] < s.told.size() && s.row(line[0]).get(line[1]) == line[2])) {
                fits.put(change, s);
            }
        }
        return fits;
    }

    public int fits(int what) {
        allow(what == 0 || what == 1);
        Map<Integer, State> fits = fitting();
        return what == 0 ? fits.size() : fits.isEmpty() ? -1 : fits.keySet().iterator().next();
    }

    public int look(int what) {
        allow(what == 0 || what == 1);
        int where = -1;
        int least = Integer.MAX_VALUE;
        Map<Integer, State> fits = fitting();
        for (int view = 0; view < 4; view++) {
            for (int k = 0; k < now.told.size(); k++) {
                int v = view;
                int spot = k;
                if (lines.stream().anyMatch(line -> line[0] == v && line[1] == spot)) {
                    continue;
                }
                int worst = 0;
                for (int mark = 0; mark < 16; mark++) {
                    int m = mark;
                    int left = (int) fits.values().stream().filter(s -> s.row(v).get(spot) == m).count();
                    worst = Math.max(worst, left);
                }
                if (worst < least) {
                    least = worst;
                    where = 10 * view + k;
                }
            }
        }
        return what == 0 || where < 0 ? where : least;
    }

    public int ahead(int n, int what) {
        allow(n >= 0 && n <= 99 && (what == 0 || what == 1));
        return what == 0 ? Math.max(0, now.wear - 3 * n) : Math.min(99, now.pots + 2 * n);
    }

    public int lasts(int view) {
        allowView(view);
        State s = now.copy();
        int times = 0;
        while (times < 999 && !s.told.isEmpty()) {
            s.view = -1;
            if (!open(s, view, s.told.size())) {
                break;
            }
            times++;
        }
        return times;
    }

    public int sellers(int v, int w, int what) {
        allow(v >= 0 && v <= 99 && w >= 0 && w <= 99 && what >= 0 && what <= 2);
        int[][][] table = {{{v, v}, {0, w}}, {{w, 0}, {w / 2, w / 2}}};
        List<Integer> rests = new ArrayList<>();
        List<Integer> sums = new ArrayList<>();
        for (int one = 0; one < 2; one++) {
            for (int other = 0; other < 2; other++) {
                if (table[1 - one][other][0] <= table[one][other][0]
                        && table[one][1 - other][1] <= table[one][other][1]) {
                    rests.add(10 * one + other);
                    sums.add(table[one][other][0] + table[one][other][1]);
                }
            }
        }
        return what == 0 ? rests.size() : rests.isEmpty() ? (what == 1 ? -1 : 0)
                : (what == 1 ? rests : sums).get(0);
    }

    private long seed;

    private int draw(int by) {
        seed = (seed * 1103515245L + 12345L) & 0xffffffffL;
        return (int) (seed / 65536 % 32768 % by);
    }

    private State live(int firstSeed, int q, int seasons) {
        State s = now.copy();
        int n = s.told.size();
        seed = firstSeed & 0xffffffffL;
        for (int i = 0; i < seasons; i++) {
            for (int k = 0; k < 4; k++) {
                if (draw(16) >= q || n == 0) {
                    continue;
                }
                switch (draw(6)) {
                    case 0 -> step(s, "open", new int[] {draw(4), draw(n) + 1});
                    case 1 -> step(s, "shut", new int[0]);
                    case 2 -> step(s, "swap", new int[] {draw(n), draw(n)});
                    case 3 -> step(s, "turn", new int[] {draw(n)});
                    case 4 -> step(s, "paint", new int[] {draw(n), draw(4), draw(16)});
                    default -> step(s, "oil", new int[0]);
                }
            }
            seasonBy(s);
        }
        return s;
    }

    public int year(int firstSeed, int q, int seasons, int what) {
        allow(q >= 0 && q <= 16 && seasons >= 1 && seasons <= 48 && what >= 0 && what <= 3);
        State s = live(firstSeed, q, seasons);
        return List.of(s.opened - now.opened, s.wear, s.pots, s.overBits()).get(what);
    }

    public int span(int firstSeed, int many, int q, int seasons, int what) {
        allow(many >= 1 && many <= 10 && q >= 0 && q <= 16 && seasons >= 1 && seasons <= 48 && what >= 0 && what <= 2);
        List<State> years = new ArrayList<>();
        for (int i = 0; i < many; i++) {
            years.add(live(firstSeed + i, q, seasons));
        }
        if (what == 2) {
            return (int) years.stream().filter(s -> showing(s.row(0), pictures.get(0))).count();
        }
        var openings = years.stream().mapToInt(s -> s.opened - now.opened).summaryStatistics();
        return what == 0 ? openings.getMin() : openings.getMax();
    }

    public int image() {
        if (images.size() == 3) {
            return -1;
        }
        images.push(new Kept(now.copy(), copies(before)));
        return images.size();
    }

    private static List<State> copies(List<State> states) {
        return new ArrayList<>(states.stream().map(State::copy).toList());
    }

    public int restore() {
        if (images.isEmpty()) {
            return -1;
        }
        Kept kept = images.pop();
        now = kept.state();
        before = kept.before();
        refusedSteps = 0;
        return images.size();
    }

    public int status(int what) {
        return what == 0 || what == 1 ? refusals[what] : -1;
    }

    public int count(int what) {
        return what == 0 ? images.size() : what == 1 ? tape.length() : what == 2 ? before.size() : -1;
    }
}
