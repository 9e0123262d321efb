import java.nio.charset.StandardCharsets;

/** What all tests share: counting what is wrong, and feeding texts. */
final class Checks {
    private static int done = 0;
    private static int wrong = 0;
    private static int edges = 0;
    /** The sentence of the document that is looked at now. */
    private static String sentence = "";

    private Checks() {
    }

    /** A call whose outcome is looked at. */
    interface Call {
        int answer();
    }

    /** A test of its own for one sentence. */
    interface Edge {
        void look();
    }

    /** Looks at one sentence of the document that names an edge; what it throws ends this test alone. */
    static void edge(String words, Edge test) {
        sentence = words;
        edges++;
        try {
            test.look();
        } catch (RuntimeException e) {
            tell("threw " + e);
        }
        sentence = "";
    }

    private static void tell(String text) {
        wrong++;
        System.out.println((sentence.isEmpty() ? "" : "[" + sentence + "] ") + text);
    }

    static void due(String what, long got, long want) {
        done++;
        if (got != want) {
            tell(what + " answered " + got + ", due is " + want);
        }
    }

    static void due(String what, boolean holds) {
        due(what, holds ? 1 : 0, 1);
    }

    static void refused(String what, Class<? extends RuntimeException> reason, Call call) {
        done++;
        try {
            int got = call.answer();
            tell(what + " answered " + got + ", due is " + reason.getSimpleName());
        } catch (RuntimeException e) {
            if (e.getClass() != reason) {
                tell(what + " threw " + e + ", due is " + reason.getSimpleName());
            }
        }
    }

    static void illegal(String what, Call call) {
        refused(what, IllegalArgumentException.class, call);
    }

    static void missing(String what, Call call) {
        refused(what, java.util.NoSuchElementException.class, call);
    }

    /** Feeds a text (and what fills its last twenty bytes); answers how long it is. */
    static int feed(FanHouse house, String text) {
        byte[] bytes = text.getBytes(StandardCharsets.ISO_8859_1);
        for (int i = 0; i < bytes.length; i += 20) {
            int[] five = new int[5];
            for (int k = 0; k < 20; k++) {
                int one = i + k < bytes.length ? bytes[i + k] & 255 : 0;
                five[k / 4] = five[k / 4] << 8 | one;
            }
            house.feed(five[0], five[1], five[2], five[3], five[4]);
        }
        return bytes.length;
    }

    static int fan(FanHouse house, String text) {
        return house.fan(feed(house, text));
    }

    static int law(FanHouse house, String text) {
        return house.law(feed(house, text));
    }

    static int work(FanHouse house, String text) {
        return house.work(feed(house, text));
    }

    static int picture(FanHouse house, String text) {
        return house.picture(feed(house, text), 0);
    }

    static int other(FanHouse house, String text) {
        return house.picture(feed(house, text), 1);
    }

    static int book(FanHouse house, String text) {
        return house.book(feed(house, text));
    }

    static FanHouse house(String fan) {
        FanHouse house = new FanHouse();
        fan(house, fan);
        return house;
    }

    static void end(String test) {
        String of = edges == 0 ? "" : edges + " sentences, ";
        System.out.println(test + ": " + of + done + " checks, " + wrong + " wrong");
        if (wrong > 0) {
            System.exit(1);
        }
    }
}
