import java.io.IOException;
import java.lang.reflect.Constructor;
import java.lang.reflect.Field;
import java.lang.reflect.Method;
import java.lang.reflect.Modifier;
import java.nio.file.Files;
import java.nio.file.Path;
import java.util.Arrays;
import java.util.List;
import java.util.Set;
import java.util.TreeSet;
import java.util.regex.Matcher;
import java.util.regex.Pattern;

/** The face of the document, and the rules of LANGUAGE.md that can be seen from outside. */
public final class LanguageTest {
    private static final Path SOURCE = Path.of("src", "main", "java", "FanHouse.java");
    private static final String FACE = """
            feed 5; fan 1 I; law 1 I; work 1 I; picture 2 I; book 1 I; fault 0; undo 0; told 1 I; stick 2 NI; at 1 N;
            strain 2 I; would 7 I; mark 2 I; seen 1 I; marks 1 I; shows 1 I; lays 1 I; laid 2 NI; both 2 I;
            brush 1 I; near 1 I; lot 2 I; off 1 I; run 2 I; even 0; fits 1 I; look 1 I; ahead 2 I; lasts 1 I;
            sellers 3 I; year 4 I; span 5 I; image 0; restore 0; status 1; count 1""";

    private LanguageTest() {
    }

    public static void main(String[] args) throws IOException, ReflectiveOperationException {
        face();
        members();
        classes();
        source(Files.readString(SOURCE));
        room();
        Checks.end("LanguageTest");
    }

    private static void face() {
        Set<String> want = new TreeSet<>();
        for (String one : FACE.split(";")) {
            want.add(one.trim());
        }
        Set<String> got = new TreeSet<>();
        for (Method method : FanHouse.class.getDeclaredMethods()) {
            if (Modifier.isPublic(method.getModifiers())) {
                got.add(told(method));
            }
        }
        Checks.due("rule 1: the face " + got, got.equals(want));
        Checks.due("rule 1: public and final",
                FanHouse.class.getModifiers() == (Modifier.PUBLIC | Modifier.FINAL));
        Constructor<?>[] constructors = FanHouse.class.getDeclaredConstructors();
        Checks.due("rule 1: one constructor", constructors.length == 1 && constructors[0].getParameterCount() == 0
                && Modifier.isPublic(constructors[0].getModifiers()));
    }

    private static String told(Method method) {
        StringBuilder b = new StringBuilder(method.getName()).append(' ').append(method.getParameterCount());
        for (Class<?> kind : method.getExceptionTypes()) {
            b.append(b.indexOf("N") < 0 && b.indexOf("I") < 0 ? " " : "").append(kind.getSimpleName().charAt(0));
        }
        boolean kinds = Arrays.stream(method.getParameterTypes()).allMatch(kind -> kind == int.class)
                && method.getReturnType() == (method.getName().equals("shows") ? boolean.class : int.class);
        return kinds ? b.toString() : b + " of other types";
    }

    private static void members() throws ReflectiveOperationException {
        Set<String> names = new TreeSet<>();
        for (Method method : FanHouse.class.getDeclaredMethods()) {
            if (Modifier.isPublic(method.getModifiers())) {
                names.add(method.getName());
            }
        }
        for (Method method : FanHouse.class.getDeclaredMethods()) {
            int m = method.getModifiers();
            Checks.due("rule 1: " + method, Modifier.isPublic(m)
                    || Modifier.isPrivate(m) && !names.contains(method.getName()));
        }
        for (Field field : FanHouse.class.getDeclaredFields()) {
            boolean isNone = field.getName().equals("NONE") && Modifier.isPublic(field.getModifiers());
            Checks.due("rule 1: " + field, isNone || Modifier.isPrivate(field.getModifiers()));
        }
        Checks.due("NONE", FanHouse.class.getField("NONE").getInt(null), -1);
    }

    private static void classes() {
        List<Class<?>> all = new java.util.ArrayList<>(List.of(FanHouse.class.getDeclaredClasses()));
        for (Class<?> one : all) {
            int m = one.getModifiers();
            Checks.due("rules 1 and 2: " + one, Modifier.isStatic(m) && !Modifier.isPublic(m)
                    && !Modifier.isProtected(m));
        }
        all.add(FanHouse.class);
        Checks.due("rule 11: " + all.size() + " classes", all.size() <= 12);
        for (Class<?> one : all) {
            int fields = 0;
            for (Field field : one.getDeclaredFields()) {
                fields += Modifier.isStatic(field.getModifiers()) ? 0 : 1;
                Checks.due("rule 5: " + field, !Modifier.isStatic(field.getModifiers())
                        || Modifier.isFinal(field.getModifiers()));
            }
            Checks.due("rule 11: fields of " + one, fields <= 20);
            for (Method method : one.getDeclaredMethods()) {
                Checks.due("rule 11: parameters of " + method, method.getParameterCount() <= 7);
            }
        }
    }

    private static void source(String text) {
        String code = text.replaceAll("(?s)/\\*.*?\\*/", "").replaceAll("//[^\n]*", "");
        Checks.due("no package", !code.contains("package "));
        for (Matcher m = Pattern.compile("import ([\\w.]+);").matcher(code); m.find();) {
            Checks.due("rule 4: " + m.group(), List.of("java.util.Arrays", "java.util.NoSuchElementException",
                    "java.util.ArrayList", "java.util.List", "java.util.Iterator").contains(m.group(1)));
        }
        for (String never : List.of("->", "::", "finally", "synchronized", "assert ", "instanceof", "catch",
                "System.out", "System.nano", "System.current", "Random", "Thread", "Exact(", "hashCode", "toString",
                "extends Exception", "static {")) {
            Checks.due("never: " + never, !code.contains(never));
        }
        for (Matcher m = Pattern.compile("Math\\.(\\w+)").matcher(code); m.find();) {
            Checks.due("rule 4: " + m.group(), List.of("min", "max", "abs").contains(m.group(1)));
        }
        for (Matcher m = Pattern.compile("throw (new \\w+)?").matcher(code); m.find();) {
            Checks.due("rule 6: " + m.group(), List.of("throw new IllegalArgumentException",
                    "throw new NoSuchElementException").contains(m.group()));
        }
        Checks.due("signs 1 to 127", text.chars().allMatch(c -> c > 0 && c < 128));
        methodLengths(text.split("\n"));
    }

    private static void methodLengths(String[] lines) {
        int start = -1;
        String end = "";
        for (int i = 0; i < lines.length; i++) {
            String line = lines[i];
            boolean opens = line.matches(" +[^=;]*\\)( throws [\\w, ]+)? \\{")
                    && !line.trim().matches("(if|for|while|switch|\\}|else).*");
            if (start < 0 && opens) {
                start = i;
                end = line.substring(0, line.length() - line.stripLeading().length()) + "}";
            } else if (start >= 0 && line.equals(end)) {
                Checks.due("rule 11: lines of " + lines[start].trim(), i - start <= 60);
                start = -1;
            }
        }
    }

    /** Once an object is made, no call but one that throws makes another: the room stays as it is. */
    private static void room() {
        FanHouse house = Checks.house("stick 1 2 3 4;".repeat(7) + "rivet 200;");
        Checks.picture(house, "1;1;1;1;4;1;");
        Checks.book(house, "0 0 1;2 1 3;");
        dear(house);
        var bean = (com.sun.management.ThreadMXBean) java.lang.management.ManagementFactory.getThreadMXBean();
        bean.getCurrentThreadAllocatedBytes();
        long before = bean.getCurrentThreadAllocatedBytes();
        dear(house);
        long made = bean.getCurrentThreadAllocatedBytes() - before;
        Checks.due("rule 12: bytes made by dear calls: " + made, made < 1000);
    }

    private static void dear(FanHouse house) {
        for (int i = 0; i < 20; i++) {
            house.feed(0x616761, 0, 0, 0, 0);
            house.law(20);
            house.work(0);
            house.image();
            house.undo();
            house.restore();
            house.near(i % 4);
            house.laid(i % 4, 6);
            house.both(0, 1);
            house.brush(2);
            house.lot(1, 1);
            house.look(0);
            house.lasts(1);
            house.span(i, 10, 16, 48, 1);
            house.year(i, 16, 48, 0);
        }
    }
}
