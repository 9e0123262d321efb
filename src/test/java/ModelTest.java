import java.lang.reflect.InvocationTargetException;
import java.lang.reflect.Method;
import java.nio.charset.StandardCharsets;
import java.util.ArrayList;
import java.util.Comparator;
import java.util.List;
import java.util.Random;

/** Runs of drawn calls, each answered by the class and by the Model; the same runs each time. */
public final class ModelTest {
    private static final int RUNS = 1500;
    private static final int CALLS = 250;

    private final Random random;
    private final FanHouse house = new FanHouse();
    private final Model model = new Model();
    private final List<String> log = new ArrayList<>();
    private int sticks = 0;
    private final int sticksMost;

    private ModelTest(long seed, int sticksMost) {
        random = new Random(seed);
        this.sticksMost = sticksMost;
    }

    public static void main(String[] args) throws ReflectiveOperationException {
        int runs = args.length > 0 ? Integer.parseInt(args[0]) : RUNS;
        long first = args.length > 1 ? Long.parseLong(args[1]) : 1;
        for (int run = 0; run < runs; run++) {
            ModelTest test = new ModelTest(first + run, run % 3 == 0 ? 4 : 3);
            test.many(CALLS);
        }
        for (int run = 0; run < 4; run++) {
            new ModelTest(first + run, 7).wide(run < 3 ? 6 : 7);
        }
        Checks.end("ModelTest");
    }

    private void many(int calls) throws ReflectiveOperationException {
        List<Method> face = new ArrayList<>(List.of(FanHouse.class.getDeclaredMethods()));
        face.removeIf(method -> !java.lang.reflect.Modifier.isPublic(method.getModifiers()));
        face.sort(Comparator.comparing(Method::getName));
        fanText();
        for (int i = 0; i < calls; i++) {
            int kind = random.nextInt(100);
            if (kind < 2) {
                fanText();
            } else if (kind < 6) {
                read("law", random.nextInt(3) > 0 ? plainLaw() : sum(0));
            } else if (kind < 20) {
                read("work", steps(0));
            } else if (kind < 26) {
                read("picture", marks(), random.nextInt(5) == 0 ? 1 : 0);
            } else if (kind < 30) {
                read("book", lines());
            } else {
                Method method = face.get(random.nextInt(face.size()));
                call(method.getName(), arguments(method));
            }
        }
    }

    /** More STICKS, and only the calls that try all ways of laying them. */
    private void wide(int n) throws ReflectiveOperationException {
        StringBuilder text = new StringBuilder();
        for (int i = 0; i < n; i++) {
            text.append("stick ").append(few()).append(' ').append(few()).append(' ').append(few()).append(' ')
                    .append(few()).append(';');
        }
        read("fan", text.toString());
        read("work", "swap 0 5;swap 1 3;turn 2;swap 2 5;turn 4;");
        for (int round = 0; round < (n == 7 ? 1 : 3); round++) {
            String marks = few() + ";16;" + few() + ";" + few() + ";16;" + few() + ";";
            read("picture", marks, 0);
            read("picture", few() + ";" + few() + ";", 1);
            int view = random.nextInt(4);
            call("lays", view);
            call("laid", view, random.nextInt(n));
            call("brush", view);
            call("near", view);
            call("both", view, random.nextInt(4));
            call("lot", view, 1);
            call("fits", 0);
            call("look", 0);
            call("look", 1);
        }
    }

    private int few() {
        return random.nextInt(3);
    }

    private Object[] arguments(Method method) {
        Object[] arguments = new Object[method.getParameterCount()];
        boolean wild = random.nextInt(25) == 0;
        for (int i = 0; i < arguments.length; i++) {
            arguments[i] = wild ? wildNumber() : number(method.getName(), i);
        }
        return arguments;
    }

    private int wildNumber() {
        int[] some = {-1, 0, 1, 2, 3, 4, 7, 8, 16, 17, 48, 49, 99, 100, Integer.MIN_VALUE, Integer.MAX_VALUE};
        return some[random.nextInt(some.length)];
    }

    private int number(String name, int i) {
        switch (name) {
            case "would":
                return random.nextInt(new int[] {4, 7, 201, 10000, 8, 100, 401}[i]) + (i == 1 ? 1 : 0);
            case "year":
                return i == 0 ? random.nextInt() : i == 1 ? random.nextInt(17) : i == 2 ? 1 + random.nextInt(48)
                        : random.nextInt(4);
            case "span":
                return i == 0 ? random.nextInt() : i == 1 ? 1 + random.nextInt(10) : i == 2 ? random.nextInt(17)
                        : i == 3 ? 1 + random.nextInt(6) : random.nextInt(3);
            case "sellers":
                return i == 2 ? random.nextInt(3) : random.nextInt(random.nextBoolean() ? 4 : 100);
            case "told":
                return random.nextInt(13);
            case "ahead":
                return i == 0 ? random.nextInt(100) : random.nextInt(2);
            case "fan":
                return random.nextInt(40) == 0 ? 0 : -1 - random.nextInt(2);
            case "law", "work", "book", "picture":
                return i == 1 ? random.nextInt(3) : random.nextInt(30) - 2;
            case "laid":
                return random.nextInt(i == 0 ? 4 : sticks + 1);
            case "lot", "run":
                return random.nextInt(i == 0 ? 4 : 2);
            case "both":
                return random.nextInt(4);
            case "feed":
                return random.nextInt();
            case "stick":
                return random.nextInt(i == 0 ? sticks + 1 : 7);
            case "at":
                return random.nextInt(sticks + 1);
            case "fits", "look":
                return random.nextInt(2);
            case "count", "status":
                return random.nextInt(3);
            default:
                return random.nextInt(i == 0 ? 4 : 5);
        }
    }

    private void call(String name, Object... arguments) throws ReflectiveOperationException {
        Class<?>[] kinds = new Class<?>[arguments.length];
        java.util.Arrays.fill(kinds, int.class);
        String text = name + java.util.Arrays.toString(arguments);
        log.add(text);
        String got = outcome(FanHouse.class.getMethod(name, kinds), house, arguments);
        String want = outcome(Model.class.getMethod(name, kinds), model, arguments);
        log.add("   " + got);
        Checks.due(text, got.equals(want));
        if (!got.equals(want)) {
            log.forEach(System.out::println);
            System.out.println("answered " + got + ", the Model says " + want);
            System.exit(1);
        }
    }

    private static String outcome(Method method, Object on, Object[] arguments) throws ReflectiveOperationException {
        try {
            return String.valueOf(method.invoke(on, arguments));
        } catch (InvocationTargetException e) {
            return e.getCause().getClass().getName();
        }
    }

    /** Feeds a text, at times with something wrong in it, and reads it. */
    private void read(String name, String whole, Object... more) throws ReflectiveOperationException {
        String text = random.nextInt(4) == 0 ? spoilt(whole) : whole;
        text = text.substring(0, Math.min(text.length(), 590));
        log.add("'" + text + "'");
        if (house.count(1) + text.length() > 580) {
            call(name, with(0, more));
        }
        if (house.count(1) > 0) {
            // A FAULT that leaves all as it is, but the TAPE.
            call("law", 0);
        }
        byte[] bytes = text.getBytes(StandardCharsets.ISO_8859_1);
        for (int i = 0; i < bytes.length; i += 20) {
            Object[] five = {0, 0, 0, 0, 0};
            for (int k = 0; k < 20; k++) {
                int one = i + k < bytes.length ? bytes[i + k] & 255 : random.nextInt(256);
                five[k / 4] = (Integer) five[k / 4] << 8 | one;
            }
            call("feed", five);
        }
        call(name, with(text.length(), more));
        call("fault");
        sticks = house.told(0);
    }

    private static Object[] with(int n, Object... more) {
        Object[] all = new Object[more.length + 1];
        all[0] = n;
        System.arraycopy(more, 0, all, 1, more.length);
        return all;
    }

    private String spoilt(String text) {
        StringBuilder b = new StringBuilder(text);
        int where = random.nextInt(b.length() + 1);
        String some = " 019;[](),+-*/%x~\u00e9\u0000lastmorepn";
        char c = some.charAt(random.nextInt(some.length()));
        switch (random.nextInt(5)) {
            case 0 -> b.insert(where, c);
            case 1 -> b.setLength(where);
            case 2 -> b.insert(where, text);
            case 3 -> b.delete(where, Math.min(b.length(), where + 1 + random.nextInt(3)));
            default -> {
                if (where < b.length()) {
                    b.setCharAt(where, c);
                }
            }
        }
        return b.toString();
    }

    private String gap() {
        return " ".repeat(random.nextInt(12) == 0 ? random.nextInt(3) : 0);
    }

    private String digits(int n) {
        return gap() + (random.nextInt(30) == 0 ? "00" : "") + n + gap();
    }

    private void fanText() throws ReflectiveOperationException {
        StringBuilder b = new StringBuilder();
        int n = random.nextInt(8) == 0 ? random.nextInt(2) : 1 + random.nextInt(sticksMost);
        int marks = random.nextBoolean() ? 3 : 16;
        for (int i = 0; i < n; i++) {
            b.append(gap()).append("stick");
            for (int h = 0; h < 4; h++) {
                b.append(' ').append(digits(random.nextInt(marks)));
            }
            b.append(';');
        }
        if (random.nextBoolean()) {
            b.append("rivet").append(digits(1 + random.nextInt(random.nextBoolean() ? 20 : 200))).append(';');
        }
        if (random.nextBoolean()) {
            b.append("paint").append(digits(random.nextInt(random.nextBoolean() ? 4 : 100))).append(';');
        }
        read("fan", b.toString());
    }

    /** Laws by which it can be opened some times. */
    private String plainLaw() {
        String[] some = {"wide", "wide+opened", "least[wear,3]+1", "wide*2+view-turned", "pots/10", "1+season%4",
            "(wide+opened)/2", "most[view,turned]", "wear/2+1", "2"};
        return some[random.nextInt(some.length)];
    }

    private String sum(int open) {
        String text = product(open);
        for (int i = random.nextInt(3); i > 0; i--) {
            text += gap() + (random.nextBoolean() ? "+" : "-") + product(open);
        }
        return text;
    }

    private String product(int open) {
        String text = unit(open);
        for (int i = random.nextInt(5) / 2; i > 0; i--) {
            text += gap() + "*/%".charAt(random.nextInt(3)) + unit(open);
        }
        return text;
    }

    private String unit(int open) {
        String[] facts = {"view", "wide", "wear", "opened", "turned", "pots", "season"};
        int kind = random.nextInt(open > 7 ? 6 : 9);
        if (kind < 3) {
            return digits(random.nextInt(random.nextBoolean() ? 5 : 1000));
        }
        if (kind < 6) {
            return gap() + facts[random.nextInt(7)];
        }
        if (kind == 6) {
            return gap() + "(" + (random.nextInt(3) == 0 ? unit(open + 1) : sum(open + 1)) + gap() + ")";
        }
        return gap() + (kind == 7 ? "least" : "most") + gap() + "[" + unit(open + 1) + "," + unit(open + 1) + gap()
                + "]";
    }

    private String steps(int open) {
        String text = "";
        for (int i = random.nextInt(open == 0 ? 8 : 4); i > 0; i--) {
            text += step(open) + gap() + ";";
        }
        return text;
    }

    private String step(int open) {
        int place = random.nextInt(Math.max(1, sticks));
        int other = random.nextInt(Math.max(1, sticks));
        switch (random.nextInt(open > 7 ? 11 : 13)) {
            case 0, 1:
                return gap() + "open" + digits(random.nextInt(4)) + " " + digits(1 + random.nextInt(sticks + 1));
            case 2, 3:
                return gap() + "shut";
            case 4:
                return gap() + "swap" + digits(place) + " " + digits(other);
            case 5:
                return gap() + "turn" + digits(place);
            case 6, 7:
                return gap() + "paint" + digits(place) + " " + digits(random.nextInt(4)) + " "
                        + digits(random.nextInt(random.nextBoolean() ? 3 : 16));
            case 8:
                return gap() + "oil";
            case 9, 10:
                return gap() + "season";
            default:
                return gap() + "again" + digits(random.nextInt(random.nextBoolean() ? 4 : 41)) + "[" + steps(open + 1)
                        + gap() + "]";
        }
    }

    private String marks() {
        String text = "";
        int most = random.nextInt(12) == 0 ? 9 : sticks + 1;
        for (int i = random.nextInt(most); i > 0; i--) {
            text += digits(random.nextInt(3) == 0 ? 16 : random.nextInt(random.nextInt(4) > 0 ? 3 : 16)) + ";";
        }
        return text;
    }

    private String lines() {
        String text = "";
        for (int i = random.nextInt(random.nextInt(10) == 0 ? 9 : 3); i > 0; i--) {
            text += digits(random.nextInt(4)) + " " + digits(random.nextInt(random.nextInt(9) == 0 ? 7 : sticks + 1))
                    + " " + digits(random.nextInt(random.nextInt(4) > 0 ? 3 : 16)) + ";";
        }
        return text;
    }
}
