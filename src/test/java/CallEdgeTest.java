import java.util.ArrayList;
import java.util.List;

/** The edges that promises 1 to 38 name, each sentence by itself. */
public final class CallEdgeTest {
    private static final String THREE = "stick 1 2 3 4;stick 1 1 5 5;stick 2 1 4 3;rivet 20;paint 3;";
    private static final String ALIKE = "stick 9 9 9 9;";
    private static final int NONE = FanHouse.NONE;
    private static final int LOW = Integer.MIN_VALUE;
    private static final int HIGH = Integer.MAX_VALUE;

    private CallEdgeTest() {
    }

    public static void main(String[] args) {
        newObject();
        feed();
        fan();
        fanLeaves();
        law();
        work();
        work17();
        picture();
        book();
        fault();
        undo();
        told();
        told10();
        stick();
        at();
        strain();
        would();
        mark();
        seen();
        views();
        laid();
        ofTwoViews();
        lot();
        off();
        run();
        even();
        fitsAndLook();
        ahead();
        lasts();
        sellers();
        year();
        span();
        image();
        restore();
        status();
        count();
        calls();
        Checks.end("CallEdgeTest");
    }

    private static void edge(String words, Checks.Edge test) {
        Checks.edge(words, test);
    }

    private static void due(String what, long got, long want) {
        Checks.due(what, got, want);
    }

    private static void due(String what, boolean got, boolean want) {
        due(what, got ? 1 : 0, want ? 1 : 0);
    }

    /** A call of one number. */
    private interface Asking {
        int of(int number);
    }

    /** Refused for each of these numbers, counted by reason, and nothing else is changed. */
    private static void illegal(FanHouse house, String call, Asking asking, int... numbers) {
        for (int number : numbers) {
            List<Integer> before = state(house);
            int refused = house.status(1);
            int missing = house.status(0);
            Checks.illegal(call + " of " + number, () -> asking.of(number));
            due("counted " + call + " of " + number, house.status(1), refused + 1);
            due("counted as that alone " + call, house.status(0), missing);
            Checks.due("as it was behind " + call + " of " + number, state(house).equals(before));
        }
    }

    private static void missing(FanHouse house, String call, Asking asking, int... numbers) {
        for (int number : numbers) {
            List<Integer> before = state(house);
            int refused = house.status(1);
            int missing = house.status(0);
            Checks.missing(call + " of " + number, () -> asking.of(number));
            due("counted " + call + " of " + number, house.status(0), missing + 1);
            due("counted as that alone " + call, house.status(1), refused);
            Checks.due("as it was behind " + call + " of " + number, state(house).equals(before));
        }
    }

    private static List<Integer> state(FanHouse house) {
        List<Integer> all = new ArrayList<>();
        for (int what = 0; what < 13; what++) {
            all.add(house.told(what));
        }
        for (int stick = 0; stick < house.told(0); stick++) {
            for (int what = 0; what < 7; what++) {
                all.add(house.stick(stick, what));
            }
        }
        for (int what = 0; what < 3; what++) {
            all.add(house.count(what));
        }
        for (int view = 0; view < 4; view++) {
            all.add(house.strain(view, 3));
            all.add(house.both(view, 3));
            all.add(house.off(view));
        }
        all.add(house.fits(0));
        all.add(house.fault());
        return all;
    }

    /** All that a FAN can have: LAW, PICTURE, OTHER, BOOK, WORKS, an IMAGE. */
    private static FanHouse full() {
        FanHouse house = Checks.house(THREE);
        Checks.law(house, "7");
        Checks.picture(house, "1;");
        Checks.other(house, "2;2;");
        Checks.book(house, "0 0 1;0 0 1;0 0 1;");
        Checks.work(house, "turn 0;open 0 2;open 0 2;season;");
        house.image();
        return house;
    }

    private static void newObject() {
        edge("1: A FAN without CLAUSES", () -> {
            FanHouse house = new FanHouse();
            int[] want = {0, 99, 0, 20, 0, 0, 0, NONE, 0, 0, 0, 0, 0};
            for (int what = 0; what < want.length; what++) {
                due("told(" + what + ")", house.told(what), want[what]);
            }
            due("fault", house.fault(), NONE);
            due("IMAGES", house.count(0), 0);
            due("TAPE", house.count(1), 0);
            due("WORKS", house.count(2), 0);
            due("refused", house.status(0) + house.status(1), 0);
            due("NONE", FanHouse.NONE, -1);
            due("to none", house.undo(), -1);
            due("to none", house.restore(), -1);
        });
        edge("1: two objects know nothing of one another", () -> {
            FanHouse one = Checks.house(THREE);
            FanHouse other = new FanHouse();
            Checks.work(one, "turn 0;");
            Checks.law(one, "9");
            due("no STICKS", other.told(0), 0);
            due("no LAW", other.strain(0, 1), 1);
            Checks.fan(other, ALIKE);
            due("still turned", one.told(6), 1);
        });
    }

    private static void feed() {
        edge("2: Twenty bytes come on the TAPE, of each number the highest first: how many there are", () -> {
            FanHouse house = new FanHouse();
            due("feed", house.feed(0x72697665, 0x74203132, 0x3b737469, 0x636b2031, 0x20322033), 20);
            due("feed", house.feed(0x20343b00, 0, 0, 0, 0), 40);
            due("'rivet 12;stick 1 2 3 4;'", house.fan(23), 1);
            due("rivet", house.told(1), 12);
            due("MARK", house.stick(0, 5), 4);
        });
        edge("2: NONE, doing nothing, if there would be more than 600", () -> {
            FanHouse house = new FanHouse();
            for (int i = 1; i <= 30; i++) {
                due("feed", house.feed(0x20202020, 0x20202020, 0x20202020, 0x20202020, 0x20202020), 20 * i);
            }
            due("feed", house.feed(1, 1, 1, 1, 1), NONE);
            due("feed", house.feed(1, 1, 1, 1, 1), NONE);
            due("TAPE", house.count(1), 600);
            due("blanks as they were", house.fan(600), 0);
            due("room again", house.feed(1, 1, 1, 1, 1), 20);
        });
        edge("2: bytes above 127, too", () -> {
            FanHouse house = new FanHouse();
            house.feed(0x72697665, 0x742035bb, 0xffffffff, LOW, HIGH);
            due("byte 187 is no ;", house.fan(20), -9);
            due("fault", house.fault(), 7);
            house.feed(-1, -1, -1, -1, -1);
            due("byte 255", house.fan(20), -9);
            due("fault", house.fault(), 0);
        });
    }

    private static void fan() {
        edge("3: The first n bytes of the TAPE (empty then) are the FAN: how many STICKS", () -> {
            FanHouse house = new FanHouse();
            Checks.feed(house, "stick 1 2 3 4;stick 5 6 7 8;");
            due("the first", house.fan(14), 1);
            due("empty then", house.count(1), 0);
            Checks.feed(house, "stick 1 2 3 4;stick 5 6 7 8;");
            due("both", house.fan(28), 2);
            Checks.feed(house, "stick 1 2 3 4;");
            due("none of it", house.fan(0), 0);
            due("empty then", house.count(1), 0);
            due("nothing of nothing", house.fan(0), 0);
        });
        edge("3: IllegalArgumentException: n is not 0 to the TAPE's bytes (it stays)", () -> {
            FanHouse house = full();
            illegal(house, "fan", house::fan, -1, 1, LOW, HIGH, 600, 601);
            Checks.feed(house, "stick 1 2 3 4;stick 5 6 7 8;");
            illegal(house, "fan", house::fan, -1, 41, LOW, HIGH, 600, 601);
            due("TAPE", house.count(1), 40);
            due("fan", house.fan(28), 2);
        });
        edge("3: n up to 600", () -> {
            FanHouse house = new FanHouse();
            Checks.feed(house, " ".repeat(600));
            illegal(house, "fan", house::fan, 601, -1);
            due("600", house.fan(600), 0);
        });
    }

    private static void fanLeaves() {
        edge("3: (no LAW, PICTURE, OTHER, BOOK, IMAGES, nothing to undo)", () -> {
            FanHouse house = full();
            Checks.law(house, "2+40");
            due("fan", Checks.fan(house, ALIKE), 1);
            due("LAW", house.strain(0, 3), 3);
            due("LAW", house.strain(3, 7), 7);
            due("PICTURE", house.told(11), 0);
            due("OTHER", house.told(12), 0);
            due("BOOK", house.told(9), 0);
            due("IMAGES", house.count(0), 0);
            due("to restore", house.restore(), -1);
            due("WORKS", house.count(2), 0);
            due("to undo", house.undo(), -1);
            due("both", house.both(0, 0), 2);
            due("fits", house.fits(0), 1);
        });
        edge("3: or the FAULT less 10 (all but the TAPE stays)", () -> {
            String[] texts = {"x", "rivet 0;", "stick 9 9 9 9;paint 5;rivet", ALIKE.repeat(8), "paint 5;".repeat(61)};
            int[] answers = {-9, -8, -9, -7, -7};
            for (int i = 0; i < texts.length; i++) {
                FanHouse house = full();
                List<Integer> before = state(house);
                due("a FAULT", Checks.fan(house, texts[i]), answers[i]);
                due("TAPE", house.count(1), 0);
                List<Integer> behind = state(house);
                before.set(before.size() - 1, house.fault());
                Checks.due("all stays behind " + texts[i], behind.equals(before));
                due("undo", house.undo(), 0);
                due("restore", house.restore(), 0);
                due("as in the IMAGE", house.told(6), 1);
            }
        });
    }

    private static void law() {
        edge("4: Likewise the LAW (n to 150): 1", () -> {
            FanHouse house = full();
            Checks.feed(house, "5" + " ".repeat(159));
            illegal(house, "law", house::law, -1, 151, 160, 161, LOW, HIGH);
            due("150", house.law(150), 1);
            due("empty then", house.count(1), 0);
            due("strain", house.strain(0, 1), 5);
            illegal(house, "law", house::law, 1, 20);
            Checks.feed(house, "6");
            illegal(house, "law", house::law, 21);
            due("20 of 20", house.law(1), 1);
        });
        edge("4: Likewise: the FAULT less 10 (all but the TAPE stays)", () -> {
            String[] texts = {"8+", "1000", "(((((((1", ""};
            int[] answers = {-9, -8, -7, -9};
            for (int i = 0; i < texts.length; i++) {
                FanHouse house = full();
                due("a FAULT", Checks.law(house, texts[i]), answers[i]);
                due("the LAW stays", house.strain(0, 1), 7);
                due("TAPE", house.count(1), 0);
                due("WORKS", house.count(2), 1);
            }
        });
        edge("4: a LAW changes nothing but the LAW", () -> {
            FanHouse house = full();
            int[] before = new int[13];
            for (int what = 0; what < 13; what++) {
                before[what] = house.told(what);
            }
            Checks.law(house, "3");
            for (int what = 0; what < 13; what++) {
                due("told(" + what + ")", house.told(what), before[what]);
            }
            due("WORKS", house.count(2), 1);
            due("IMAGES", house.count(0), 1);
        });
    }

    private static void work() {
        edge("5: Likewise WORK (n to 150)", () -> {
            FanHouse house = full();
            Checks.feed(house, " ".repeat(160));
            illegal(house, "work", house::work, -1, 151, 160, 161, LOW, HIGH);
            due("150", house.work(150), 0);
            due("empty then", house.count(1), 0);
            illegal(house, "work", house::work, 1, 20);
            due("nothing of nothing", house.work(0), 0);
        });
        edge("5: how many STEPS were done (agains not counted, nor REFUSED ones)", () -> {
            FanHouse house = Checks.house(THREE);
            due("none", Checks.work(house, ""), 0);
            due("agains alone", Checks.work(house, "again 3[again 2[];];"), 0);
            due("REFUSED alone", Checks.work(house, "shut;oil;again 3[shut;];"), 0);
            due("some", Checks.work(house, "shut;again 3[turn 0;shut;];turn 1;oil;"), 4);
        });
        edge("5: or the FAULT less 10 (none is done)", () -> {
            FanHouse house = Checks.house(THREE);
            due("1", Checks.work(house, "turn 0;swap 0 1;shut"), -9);
            due("2", Checks.work(house, "turn 0;swap 0 1;turn 3;"), -8);
            due("3", Checks.work(house, "turn 0;" + "again 1[".repeat(7)), -7);
            due("not turned", house.told(6), 0);
            due("not swapped", house.at(0), 0);
            due("not one to undo", house.count(2), 0);
            due("TAPE", house.count(1), 0);
        });
    }

    private static FanHouse with16() {
        FanHouse house = Checks.house(THREE);
        for (int i = 1; i <= 16; i++) {
            due("WORK " + i, house.work(0), 0);
            due("WORKS", house.count(2), i);
        }
        return house;
    }

    private static void work17() {
        edge("5: -20: 16 WORKS are there that were not undone", () -> {
            FanHouse house = with16();
            due("17th", Checks.work(house, "turn 0;"), -20);
            due("18th", Checks.work(house, ""), -20);
            due("none is done", house.told(6), 0);
            due("WORKS", house.count(2), 16);
            due("undo", house.undo(), 15);
            due("room for one", Checks.work(house, "turn 0;"), 1);
            due("and no more", Checks.work(house, "turn 0;"), -20);
        });
        edge("5: -20 behind the exception", () -> {
            FanHouse house = with16();
            Checks.feed(house, "turn 0;" + " ".repeat(150));
            illegal(house, "work", house::work, -1, 151, 161, LOW, HIGH);
            due("TAPE", house.count(1), 160);
            due("-20", house.work(150), -20);
            illegal(house, "work", house::work, 1);
        });
        edge("5: -20 ahead of the FAULT (nothing is read, there is no FAULT, the TAPE is empty then)", () -> {
            FanHouse house = with16();
            Checks.picture(house, "x");
            due("a FAULT", house.fault(), 0);
            Checks.feed(house, "x");
            due("-20", house.work(1), -20);
            due("there is no FAULT", house.fault(), NONE);
            due("TAPE", house.count(1), 0);
        });
        edge("5: 16 WORKS that were not undone, by an IMAGE, too", () -> {
            FanHouse house = with16();
            house.image();
            while (house.undo() > 0) {
                due("fine", house.told(10), 0);
            }
            house.restore();
            due("17th", house.work(0), -20);
            Checks.fan(house, THREE);
            due("none behind a FAN", house.work(0), 0);
        });
    }

    private static void picture() {
        edge("6: Likewise the PICTURE (which 0) or the OTHER one (1) (n to 60): how many MARKS", () -> {
            FanHouse house = full();
            Checks.feed(house, "1;2;" + " ".repeat(70));
            illegal(house, "picture", n -> house.picture(n, 0), -1, 61, 80, 81, LOW, HIGH);
            illegal(house, "other", n -> house.picture(n, 1), -1, 61, 80, 81, LOW, HIGH);
            due("60", house.picture(60, 0), 2);
            due("empty then", house.count(1), 0);
            due("the OTHER one stays", house.told(12), 2);
            illegal(house, "picture", n -> house.picture(n, 0), 1);
            Checks.feed(house, "1;2;3;" + " ".repeat(70));
            due("60", house.picture(60, 1), 3);
            due("the PICTURE stays", house.told(11), 2);
            due("no bytes", house.picture(0, 0), 0);
            due("no bytes", house.picture(0, 1), 0);
        });
        edge("6: IllegalArgumentException: another which, too", () -> {
            FanHouse house = full();
            Checks.feed(house, "1;");
            illegal(house, "which", which -> house.picture(2, which), -1, 2, LOW, HIGH);
            due("TAPE", house.count(1), 20);
        });
        edge("6: Likewise: the FAULT less 10 (all but the TAPE stays)", () -> {
            FanHouse house = full();
            for (int which = 0; which < 2; which++) {
                Checks.feed(house, "9;9;9;17;");
                due("2", house.picture(9, which), -8);
                Checks.feed(house, "9;9;9;9");
                due("1", house.picture(7, which), -9);
                Checks.feed(house, "9;9;9;9;9;9;9;9;");
                due("3", house.picture(16, which), -7);
                due("TAPE", house.count(1), 0);
            }
            due("the PICTURE stays", house.told(11), 1);
            due("the OTHER one stays", house.told(12), 2);
            Checks.work(house, "shut;turn 0;");
            due("the PICTURE stays", house.shows(0), true);
        });
    }

    private static void book() {
        edge("7: Likewise the BOOK (n to 60): how many lines", () -> {
            FanHouse house = full();
            Checks.feed(house, "0 0 4;" + " ".repeat(70));
            illegal(house, "book", house::book, -1, 61, 80, 81, LOW, HIGH);
            due("60", house.book(60), 1);
            due("empty then", house.count(1), 0);
            illegal(house, "book", house::book, 1);
            due("no bytes", house.book(0), 0);
            due("told", house.told(9), 0);
        });
        edge("7: Likewise: the FAULT less 10 (all but the TAPE stays)", () -> {
            FanHouse house = full();
            due("1", Checks.book(house, "0 0 2;0 0"), -9);
            due("2", Checks.book(house, "0 0 2;0 7 0;"), -8);
            due("3", Checks.book(house, "0 0 2;".repeat(8)), -7);
            due("TAPE", house.count(1), 0);
            due("lines", house.told(9), 3);
            Checks.work(house, "shut;turn 0;");
            due("FITS of the lines that stay", house.fits(1), 1);
        });
    }

    private static void fault() {
        edge("8: The place of the FAULT of the latest text; NONE without", () -> {
            FanHouse house = new FanHouse();
            due("no text", house.fault(), NONE);
            Checks.fan(house, "rivet 5;x");
            due("of a FAN", house.fault(), 8);
            Checks.law(house, "1 1");
            due("of a LAW", house.fault(), 2);
            Checks.work(house, "oil;x");
            due("of a WORK", house.fault(), 4);
            Checks.picture(house, "1;1;1;x");
            due("of a PICTURE", house.fault(), 6);
            Checks.other(house, "1;x");
            due("of the OTHER one", house.fault(), 2);
            Checks.book(house, "1 1 1;1 x");
            due("of a BOOK", house.fault(), 8);
            Checks.law(house, "");
            due("at 0", house.fault(), 0);
            Checks.law(house, "1");
            due("none", house.fault(), NONE);
        });
        edge("8: each good text leaves NONE", () -> {
            FanHouse house = new FanHouse();
            String[] texts = {"", "1", "oil;", "1;", "1;", "1 1 1;"};
            for (int i = 0; i < texts.length; i++) {
                Checks.law(house, "x");
                due("a FAULT", house.fault(), 0);
                int n = Checks.feed(house, texts[i]);
                switch (i) {
                    case 0 -> house.fan(n);
                    case 1 -> house.law(n);
                    case 2 -> house.work(n);
                    case 3 -> house.picture(n, 0);
                    case 4 -> house.picture(n, 1);
                    default -> house.book(n);
                }
                due("none behind '" + texts[i] + "'", house.fault(), NONE);
            }
        });
        edge("8: of the latest text: what reads none leaves it", () -> {
            FanHouse house = new FanHouse();
            Checks.law(house, "1 x");
            Checks.illegal("no such bytes", () -> house.fan(1));
            house.undo();
            house.image();
            house.restore();
            house.feed(0, 0, 0, 0, 0);
            Checks.illegal("another which", () -> house.picture(0, 2));
            due("fault", house.fault(), 2);
        });
    }

    private static void undo() {
        edge("9: undo: how many are left; -1: there is none", () -> {
            FanHouse house = with16();
            for (int left = 15; left >= 0; left--) {
                due("undo", house.undo(), left);
                due("WORKS", house.count(2), left);
            }
            due("none", house.undo(), -1);
            due("none", house.undo(), -1);
            due("WORKS", house.count(2), 0);
        });
        edge("9: (of no STEPS, or with all of them REFUSED, too)", () -> {
            FanHouse house = Checks.house(THREE);
            Checks.work(house, "turn 0;");
            Checks.work(house, "");
            Checks.work(house, "shut;oil;");
            due("all REFUSED", house.undo(), 2);
            due("of no STEPS", house.undo(), 1);
            due("still turned", house.told(6), 1);
            due("the first", house.undo(), 0);
            due("turned back", house.told(6), 0);
        });
        edge("9: The latest WORK that was done is undone", () -> {
            FanHouse house = Checks.house(THREE);
            Checks.work(house, "open 2 2;");
            List<Integer> before = state(house);
            Checks.work(house, "paint 0 0 9;shut;turn 0;swap 0 2;season;open 1 3;oil;");
            Checks.work(house, "turn 9;");
            Checks.law(house, "wide");
            due("undo", house.undo(), 1);
            Checks.due("as ahead of it", state(house).equals(before));
            due("PLACES", house.at(0), 0);
        });
    }

    private static void told() {
        edge("10: 0 STICKS, 1 N of rivet, 2 by how much it is worn, 3 pots, 4 the SEASON", () -> {
            for (int n = 0; n <= 7; n++) {
                FanHouse house = Checks.house(ALIKE.repeat(n) + "rivet 200;paint 90;");
                Checks.law(house, "60");
                Checks.work(house, "open 0 1;season;season;");
                due("STICKS", house.told(0), n);
                due("rivet", house.told(1), 200);
                due("worn", house.told(2), n > 0 ? 54 : 0);
                due("pots", house.told(3), 94);
                due("SEASON", house.told(4), 2);
            }
        });
        edge("10: 7 the VIEW it shows now (NONE: it is shut), 8 to how many STICKS it is opened (0: it is shut)", () -> {
            FanHouse house = Checks.house(THREE);
            due("VIEW", house.told(7), NONE);
            due("STICKS", house.told(8), 0);
            Checks.work(house, "open 0 1;");
            due("VIEW 0", house.told(7), 0);
            due("STICKS", house.told(8), 1);
            Checks.work(house, "shut;open 3 3;");
            due("VIEW 3", house.told(7), 3);
            due("STICKS", house.told(8), 3);
            Checks.work(house, "shut;");
            due("VIEW", house.told(7), NONE);
            due("STICKS", house.told(8), 0);
        });
        edge("10: IllegalArgumentException: another what", () -> {
            FanHouse house = full();
            illegal(house, "told", house::told, -1, 13, LOW, HIGH);
        });
        edge("10: 5 how often it was opened by now, 6 STICKS that are turned over (bits)", () -> {
            FanHouse house = Checks.house(ALIKE.repeat(7) + "rivet 200;");
            Checks.law(house, "0");
            Checks.work(house, "again 40[open 0 1;open 0 1;shut;];");
            due("opened", house.told(5), 40);
            due("REFUSED", house.told(10), 40);
            Checks.work(house, "turn 6;turn 0;swap 0 6;turn 3;");
            due("turned over", house.told(6), 64 + 1 + 8);
        });
    }

    private static void told10() {
        edge("10: 10 STEPS REFUSED by the latest WORK (0 ahead of any", () -> {
            FanHouse house = Checks.house(THREE);
            due("ahead of any", house.told(10), 0);
            Checks.work(house, "shut;shut;turn 0;");
            due("2", house.told(10), 2);
            Checks.work(house, "turn 0;");
            due("of the latest", house.told(10), 0);
            Checks.work(house, "again 40[shut;shut;shut;shut;shut;];");
            due("the most", house.told(10), 199);
        });
        edge("10: 0 behind fan() without a FAULT", () -> {
            FanHouse house = Checks.house(THREE);
            Checks.work(house, "shut;shut;");
            Checks.fan(house, "x");
            due("with one", house.told(10), 2);
            Checks.illegal("no bytes", () -> house.fan(1));
            due("with none read", house.told(10), 2);
            house.fan(0);
            due("without", house.told(10), 0);
        });
        edge("10: 0 behind undo()", () -> {
            FanHouse house = Checks.house(THREE);
            Checks.work(house, "shut;");
            Checks.work(house, "shut;shut;");
            house.undo();
            due("undone", house.told(10), 0);
        });
        edge("10: 0 behind restore()", () -> {
            FanHouse house = Checks.house(THREE);
            Checks.work(house, "shut;");
            house.image();
            due("an IMAGE leaves it", house.told(10), 1);
            Checks.work(house, "shut;shut;");
            house.restore();
            due("restored", house.told(10), 0);
        });
        edge("10: by the latest WORK: a FAULT and -20 are none", () -> {
            FanHouse house = Checks.house(THREE);
            Checks.work(house, "shut;shut;");
            Checks.work(house, "shut;x");
            due("a FAULT", house.told(10), 2);
            FanHouse many = with16();
            many.undo();
            Checks.work(many, "oil;oil;oil;");
            Checks.work(many, "oil;");
            due("-20", many.told(10), 3);
        });
    }

    private static void stick() {
        edge("11: 0 its PLACE, 1 1 it is turned over, 0 not, 2 to 5 MARKS of its halves 0 to 3, as it lies now", () -> {
            FanHouse house = Checks.house("stick 0 1 2 3;stick 4 5 6 7;stick 8 9 10 15;");
            Checks.work(house, "swap 0 2;turn 0;");
            int[][] want = {{2, 0, 0, 1, 2, 3}, {1, 0, 4, 5, 6, 7}, {0, 1, 15, 10, 9, 8}};
            for (int stick = 0; stick < 3; stick++) {
                for (int what = 0; what < 6; what++) {
                    due("stick(" + stick + ", " + what + ")", house.stick(stick, what), want[stick][what]);
                }
            }
        });
        edge("11: 6 other STICKS (bits) that have the same four MARKS as they lie now", () -> {
            FanHouse seven = Checks.house(ALIKE.repeat(7));
            for (int stick = 0; stick < 7; stick++) {
                due("all others", seven.stick(stick, 6), 127 - (1 << stick));
            }
            due("alone", Checks.house(ALIKE).stick(0, 6), 0);
            String[] unlike = {"stick 8 9 9 9;", "stick 9 8 9 9;", "stick 9 9 8 9;", "stick 9 9 9 8;"};
            for (String one : unlike) {
                due(one, Checks.house(ALIKE + one).stick(0, 6), 0);
            }
            FanHouse house = Checks.house("stick 1 2 3 4;stick 4 3 2 1;");
            due("as told", house.stick(0, 6), 0);
            Checks.work(house, "turn 0;");
            due("turned over", house.stick(0, 6), 2);
            due("turned over", house.stick(1, 6), 1);
        });
        edge("11: NoSuchElementException: no such STICK (ahead of others)", () -> {
            FanHouse house = full();
            missing(house, "stick", stick -> house.stick(stick, 0), -1, 3, 6, 7, LOW, HIGH);
            missing(house, "stick", stick -> house.stick(stick, 7), -1, 3);
            FanHouse none = new FanHouse();
            missing(none, "stick", stick -> none.stick(stick, 0), -1, 0, 1);
            missing(none, "stick", stick -> none.stick(stick, -1), 0);
            FanHouse seven = Checks.house(ALIKE.repeat(7));
            missing(seven, "stick", stick -> seven.stick(stick, 0), -1, 7);
            due("the last", seven.stick(6, 0), 6);
        });
        edge("11: IllegalArgumentException: another what", () -> {
            FanHouse house = full();
            illegal(house, "what", what -> house.stick(0, what), -1, 7, LOW, HIGH);
        });
    }

    private static void at() {
        edge("12: NoSuchElementException: no such PLACE", () -> {
            FanHouse house = full();
            missing(house, "at", house::at, -1, 3, 6, 7, LOW, HIGH);
            due("the last", house.at(2), 2);
            FanHouse none = new FanHouse();
            missing(none, "at", none::at, -1, 0, 1);
            FanHouse seven = Checks.house(ALIKE.repeat(7));
            missing(seven, "at", seven::at, -1, 7);
            due("the last", seven.at(6), 6);
        });
    }

    private static void strain() {
        edge("13: STRAIN of an opening of VIEW V (0 to 3) to n (1 to 7) now (whether it could be done or not)", () -> {
            FanHouse house = Checks.house(THREE);
            Checks.law(house, "view*7+wide+20");
            due("more than rivet", house.strain(3, 7), 48);
            due("least", house.strain(0, 1), 21);
            Checks.law(house, "wide+opened");
            Checks.work(house, "open 0 1;");
            due("open", house.strain(0, 7), 8);
            due("no STICKS", new FanHouse().strain(0, 7), 7);
            illegal(house, "view", view -> house.strain(view, 1), -1, 4, LOW, HIGH);
            illegal(house, "n", n -> house.strain(0, n), -1, 0, 8, LOW, HIGH);
        });
    }

    private static int wouldBe(FanHouse house, int which, int number) {
        int[] x = {0, 1, 0, 0, 0, 0, 0};
        x[which] = number;
        return house.would(x[0], x[1], x[2], x[3], x[4], x[5], x[6]);
    }

    private static void would() {
        String[] words = {"view (0 to 3)", "wide (1 to 7)", "wear (0 to 200)", "opened (0 to 9,999)", "turned (0 to 7)",
            "pots (0 to 99)", "season (0 to 400)"};
        int[] low = {0, 1, 0, 0, 0, 0, 0};
        int[] high = {3, 7, 200, 9999, 7, 99, 400};
        for (int i = 0; i < words.length; i++) {
            int which = i;
            edge("14: STRAIN by the LAW for such " + words[i], () -> {
                FanHouse house = full();
                Checks.law(house, words[which].split(" ")[0] + "/200+" + words[which].split(" ")[0] + "%61");
                due("least", wouldBe(house, which, low[which]), low[which] / 200 + low[which] % 61);
                int most = Math.min(60, high[which] / 200 + high[which] % 61);
                due("most", wouldBe(house, which, high[which]), most);
                illegal(house, "would", number -> wouldBe(house, which, number), low[which] - 1, high[which] + 1, LOW,
                        HIGH);
            });
        }
        edge("14: STRAIN by the LAW for such, not for what is now", () -> {
            FanHouse house = Checks.house(THREE);
            Checks.law(house, "wear+opened+turned+pots+season");
            Checks.work(house, "turn 0;turn 2;season;season;open 0 1;");
            due("for such", house.would(0, 1, 0, 0, 0, 0, 0), 0);
            due("for such", house.would(0, 1, 1, 2, 3, 4, 5), 15);
            // worn by 0 and 0, and 0, 2, 7, 2
            due("now", house.strain(0, 1), 11 + 1 + 11);
        });
    }

    private static void mark() {
        edge("15: NONE: there are not so many", () -> {
            FanHouse house = Checks.house(THREE);
            for (int view = 0; view < 4; view++) {
                due("the last", house.mark(view, 2) == NONE, false);
                due("behind it", house.mark(view, 3), NONE);
                due("far behind it", house.mark(view, HIGH), NONE);
                due("no STICKS", new FanHouse().mark(view, 0), NONE);
            }
            FanHouse seven = Checks.house(ALIKE.repeat(7));
            due("the 7th", seven.mark(2, 6), 9);
            due("the 8th", seven.mark(2, 7), NONE);
        });
        edge("15: IllegalArgumentException: no such VIEW (0 to 3; so below), k below 0", () -> {
            FanHouse house = full();
            illegal(house, "mark", view -> house.mark(view, 0), -1, 4, LOW, HIGH);
            illegal(house, "mark", view -> house.mark(view, 99), -1, 4);
            for (int view = 0; view < 4; view++) {
                int one = view;
                illegal(house, "mark", k -> house.mark(one, k), -1, LOW);
            }
        });
    }

    private static void seen() {
        edge("16: NONE: not so many are, or it is shut", () -> {
            FanHouse house = Checks.house(THREE);
            due("shut", house.seen(0), NONE);
            Checks.work(house, "open 0 2;");
            due("the last", house.seen(1), 1);
            due("behind it", house.seen(2), NONE);
            due("far behind it", house.seen(HIGH), NONE);
            Checks.work(house, "shut;open 2 3;");
            due("the last", house.seen(2), 3);
            due("behind it", house.seen(3), NONE);
            Checks.work(house, "shut;");
            due("shut again", house.seen(0), NONE);
        });
        edge("16: IllegalArgumentException: k below 0", () -> {
            FanHouse house = full();
            illegal(house, "seen", house::seen, -1, LOW);
            FanHouse shut = new FanHouse();
            illegal(shut, "seen", shut::seen, -1, LOW);
        });
    }

    private static void views() {
        edge("17: MARKS (bits) of a VIEW, wide open", () -> {
            due("no STICKS", new FanHouse().marks(0), 0);
            FanHouse house = Checks.house("stick 0 15 1 2;stick 0 14 1 3;");
            due("0", house.marks(0), 1);
            due("14 and 15", house.marks(1), 1 << 14 | 1 << 15);
            due("VIEW 2", house.marks(2), 2);
            due("VIEW 3", house.marks(3), 12);
            Checks.work(house, "open 0 1;");
            due("all of it, opened to one", house.marks(3), 12);
        });
        edge("17 to 20, 22 to 26, 31: IllegalArgumentException: no such VIEW", () -> {
            FanHouse house = full();
            int[] others = {-1, 4, LOW, HIGH};
            illegal(house, "marks", house::marks, others);
            illegal(house, "shows", view -> house.shows(view) ? 1 : 0, others);
            illegal(house, "lays", house::lays, others);
            illegal(house, "laid", view -> house.laid(view, 0), others);
            illegal(house, "brush", house::brush, others);
            illegal(house, "near", house::near, others);
            illegal(house, "lot", view -> house.lot(view, 0), others);
            illegal(house, "off", house::off, others);
            illegal(house, "run", view -> house.run(view, 0), others);
            illegal(house, "lasts", house::lasts, others);
            FanHouse none = new FanHouse();
            illegal(none, "marks", none::marks, others);
            illegal(none, "lays", none::lays, others);
            illegal(none, "near", none::near, others);
            illegal(none, "brush", none::brush, others);
            illegal(none, "lasts", none::lasts, others);
        });
        edge("18: Whether a VIEW, wide open, SHOWS the PICTURE now", () -> {
            FanHouse house = Checks.house(THREE);
            Checks.picture(house, "1;1;2;");
            due("shut", house.shows(0), true);
            Checks.work(house, "open 3 1;");
            due("opened to one at another VIEW", house.shows(0), true);
            Checks.work(house, "shut;turn 0;");
            due("turned over", house.shows(0), false);
        });
    }

    private static void laid() {
        edge("20: The first of LAYS of a VIEW, at a PLACE: 2 times the STICK, and 1, if it is turned over", () -> {
            FanHouse house = Checks.house(ALIKE.repeat(6) + "stick 8 9 9 7;");
            Checks.picture(house, "7;");
            due("STICK 6 turned over", house.laid(0, 0), 13);
            for (int place = 1; place < 7; place++) {
                due("the others", house.laid(0, place), 2 * place - 2);
            }
            Checks.picture(house, "8;");
            due("STICK 6 as told", house.laid(0, 0), 12);
        });
        edge("20: NONE: there is none", () -> {
            FanHouse house = Checks.house(THREE);
            Checks.picture(house, "9;");
            for (int place = 0; place < 3; place++) {
                due("none", house.laid(0, place), NONE);
            }
            Checks.picture(house, "16;16;16;16;");
            due("too long", house.laid(0, 0), NONE);
        });
        edge("20: NoSuchElementException: no such PLACE (ahead of others)", () -> {
            FanHouse house = full();
            missing(house, "laid", place -> house.laid(0, place), -1, 3, 6, 7, LOW, HIGH);
            missing(house, "laid", place -> house.laid(4, place), -1, 3);
            Checks.picture(house, "9;");
            missing(house, "laid where there is none", place -> house.laid(0, place), -1, 3);
            FanHouse none = new FanHouse();
            missing(none, "laid", place -> none.laid(0, place), -1, 0);
            missing(none, "laid", place -> none.laid(-1, place), 0);
            due("the last", Checks.house(ALIKE.repeat(7)).laid(3, 6), 12);
        });
    }

    private static void ofTwoViews() {
        edge("21: IllegalArgumentException: no such VIEW, of both", () -> {
            FanHouse house = full();
            illegal(house, "both", view -> house.both(view, 0), -1, 4, LOW, HIGH);
            illegal(house, "both", view -> house.both(0, view), -1, 4, LOW, HIGH);
            due("the last ones", house.both(3, 3) < 0, false);
        });
        edge("22: NONE: the PICTURE has more MARKS than there are STICKS", () -> {
            FanHouse house = Checks.house(THREE);
            Checks.picture(house, "9;9;9;9;");
            due("4 of 3", house.brush(0), NONE);
            Checks.picture(house, "9;9;9;");
            due("3 of 3", house.brush(0), 3);
        });
        edge("23: NEAR, NONE: there is none", () -> {
            FanHouse house = Checks.house(THREE);
            Checks.picture(house, "9;");
            due("none", house.near(0), NONE);
            Checks.picture(house, "5;");
            due("one", house.near(0), 2);
        });
    }

    private static void lot() {
        edge("24: above (half 0), below (half 1); IllegalArgumentException: another half", () -> {
            FanHouse house = full();
            illegal(house, "lot", half -> house.lot(0, half), -1, 2, LOW, HIGH);
            FanHouse two = Checks.house("stick 1 1 1 2;stick 1 1 1 3;");
            Checks.picture(two, "1;");
            due("above", two.lot(0, 0), 1);
            due("below", two.lot(0, 1), 2);
            // 1 as STICK 1 or 2, then 0 as STICK 0 either way or as STICK 1: 4 and 4 and 2 of 48
            FanHouse three = Checks.house("stick 0 0 0 0;stick 1 0 0 0;stick 2 0 0 1;");
            Checks.picture(three, "1;0;");
            due("above", three.lot(0, 0), 5);
            due("below", three.lot(0, 1), 24);
        });
        edge("24: in least terms (0 by 1, if it can't be)", () -> {
            FanHouse house = Checks.house(ALIKE.repeat(7));
            Checks.picture(house, "8;");
            due("above", house.lot(0, 0), 0);
            due("below", house.lot(0, 1), 1);
            Checks.picture(house, "9;");
            due("above", house.lot(0, 0), 1);
            due("below", house.lot(0, 1), 1);
        });
    }

    private static void off() {
        edge("25: (any told at 16 is alike; those where one of them ends do not count)", () -> {
            FanHouse house = Checks.house(THREE);
            due("no PICTURE", house.off(0), 0);
            Checks.picture(house, "16;16;16;");
            due("any", house.off(0), 0);
            Checks.picture(house, "9;9;9;");
            due("all", house.off(0), 3);
            Checks.picture(house, "9;9;9;9;9;9;9;");
            due("it ends at 3", house.off(0), 3);
            Checks.picture(house, "9;");
            due("the PICTURE ends at 1", house.off(0), 1);
            Checks.picture(house, "1;16;3;");
            due("one of three", house.off(0), 1);
            FanHouse none = new FanHouse();
            Checks.picture(none, "9;9;");
            due("no STICKS", none.off(0), 0);
        });
    }

    private static void runs(String fan, int view, int length, int mark) {
        FanHouse house = Checks.house(fan);
        due("how long", house.run(view, 0), length);
        due("the MARK", house.run(view, 1), mark);
    }

    private static void run() {
        edge("26: 0 how long (0 without STICKS), 1 the MARK (NONE: there are no STICKS)", () -> {
            runs("", 0, 0, NONE);
            runs("", 3, 0, NONE);
            runs("stick 0 1 2 3;", 0, 1, 0);
            runs(ALIKE.repeat(7), 2, 7, 9);
        });
        edge("26: The longest run of one MARK (of alike ones the first", () -> {
            runs("stick 1 0 5 0;stick 2 0 6 0;stick 3 0 7 0;", 0, 1, 1);
            runs("stick 1 0 5 0;stick 1 0 6 0;stick 3 0 7 0;", 0, 2, 1);
            runs("stick 0 0 5 0;stick 1 0 6 0;stick 0 0 7 0;stick 0 0 8 0;stick 1 0 8 0;", 0, 2, 0);
            runs("stick 0 15 5 0;stick 0 15 6 0;stick 0 15 7 0;", 0, 3, 0);
            runs("stick 0 15 5 0;stick 0 15 6 0;stick 0 15 7 0;", 1, 3, 15);
            runs("stick 1 0 5 0;stick 2 0 6 0;stick 3 0 7 0;", 2, 1, 7);
            runs("stick 1 0 1 0;stick 1 0 1 0;stick 2 0 2 0;stick 2 0 2 0;", 0, 2, 1);
            runs("stick 1 0 1 0;stick 1 0 1 0;stick 2 0 2 0;stick 2 0 2 0;", 2, 2, 2);
            runs("stick 1 0 1 0;stick 1 0 1 0;stick 2 0 2 0;stick 2 0 2 0;stick 2 1 2 1;", 0, 3, 2);
            runs("stick 1 0 1 0;stick 2 0 2 0;stick 1 0 1 0;stick 1 0 1 0;", 0, 2, 1);
            runs("stick 1 0 1 0;stick 2 0 2 0;stick 1 0 1 0;", 0, 1, 1);
            runs("stick 3 0 1 0;stick 2 0 2 0;stick 2 0 1 0;stick 3 0 1 0;stick 3 0 1 0;", 0, 2, 2);
        });
        edge("26: IllegalArgumentException: another what", () -> {
            FanHouse house = full();
            illegal(house, "run", what -> house.run(0, what), -1, 2, LOW, HIGH);
        });
    }

    private static void even() {
        edge("27: VIEWS (bits) that read alike from both ends, wide open (all, without STICKS)", () -> {
            due("no STICKS", new FanHouse().even(), 15);
            due("one STICK", Checks.house("stick 1 2 3 4;").even(), 15);
            due("two, of them VIEW 0", Checks.house("stick 1 2 3 4;stick 1 3 4 5;").even(), 1);
            due("two, of them VIEW 1", Checks.house("stick 1 2 3 4;stick 2 2 4 5;").even(), 2);
            due("two, of them VIEW 2", Checks.house("stick 1 2 3 4;stick 2 3 3 5;").even(), 4);
            due("two, of them VIEW 3", Checks.house("stick 1 2 3 4;stick 2 3 4 4;").even(), 8);
            due("the middle is free", Checks.house(ALIKE + "stick 1 2 3 4;" + ALIKE).even(), 15);
            due("the inner two", Checks.house(ALIKE + "stick 9 8 9 8;" + "stick 8 8 8 8;" + ALIKE).even(), 10);
            due("the outer two", Checks.house(ALIKE + ALIKE + ALIKE + "stick 9 9 8 9;").even(), 11);
            due("seven", Checks.house(ALIKE.repeat(7)).even(), 15);
        });
        edge("27: wide open, to how many STICKS it is opened or not", () -> {
            FanHouse house = Checks.house("stick 1 2 3 4;stick 1 3 4 5;");
            Checks.work(house, "open 1 1;");
            due("opened to one", house.even(), 1);
        });
    }

    private static void fitsAndLook() {
        edge("28: FITS: 0 how many, 1 the first (NONE); IllegalArgumentException: another what", () -> {
            FanHouse house = full();
            illegal(house, "fits", house::fits, -1, 2, LOW, HIGH);
            due("no STICKS", new FanHouse().fits(0), 0);
            due("no STICKS", new FanHouse().fits(1), NONE);
        });
        edge("29: LOOK: NONE both; IllegalArgumentException: another what", () -> {
            FanHouse house = full();
            illegal(house, "look", house::look, -1, 2, LOW, HIGH);
            due("no STICKS", new FanHouse().look(0), NONE);
            due("no STICKS", new FanHouse().look(1), NONE);
        });
    }

    private static void ahead() {
        edge("30: In n SEASONS (0 to 99)", () -> {
            FanHouse house = Checks.house("stick 1 2 3 4;rivet 200;paint 0;");
            Checks.law(house, "60");
            Checks.work(house, "open 0 1;shut;open 0 1;");
            due("worn now", house.ahead(0, 0), 120);
            due("pots now", house.ahead(0, 1), 0);
            due("worn then", house.ahead(39, 0), 3);
            due("0 at least", house.ahead(40, 0), 0);
            due("0 at least", house.ahead(41, 0), 0);
            due("0 at least", house.ahead(99, 0), 0);
            due("pots then", house.ahead(49, 1), 98);
            due("99 at most", house.ahead(50, 1), 99);
            due("99 at most", house.ahead(99, 1), 99);
            illegal(house, "ahead", n -> house.ahead(n, 0), -1, 100, LOW, HIGH);
            illegal(house, "ahead", n -> house.ahead(n, 1), -1, 100);
            illegal(house, "ahead", what -> house.ahead(0, what), -1, 2, LOW, HIGH);
        });
        edge("30: 99 SEASONS, no one less", () -> {
            FanHouse house = Checks.house("stick 1 2 3 4;rivet 200;paint 0;");
            Checks.law(house, "60");
            Checks.work(house, "open 0 1;shut;open 0 1;shut;open 0 1;shut;");
            Checks.law(house, "19");
            Checks.work(house, "open 0 1;");
            due("worn", house.told(2), 199);
            due("worn in 66", house.ahead(66, 0), 1);
            due("worn in 67", house.ahead(67, 0), 0);
        });
    }

    private static int lasting(String law, String work) {
        FanHouse house = Checks.house(THREE);
        Checks.law(house, law);
        Checks.work(house, work);
        return house.lasts(2);
    }

    private static void lasts() {
        edge("31: until it is REFUSED (STRAIN each time as it is then", () -> {
            due("20 by 20", lasting("20", ""), 1);
            due("20 by 21", lasting("21", ""), 0);
            due("20 by 10", lasting("10", ""), 2);
            due("20 by 9", lasting("9", ""), 2);
            due("0, 5, 10, 15", lasting("opened*5", ""), 3);
            due("1, 2, 4, 8, 16", lasting("wear+1", ""), 4);
            due("VIEW 2, three wide", lasting("view*wide", ""), 3);
            due("turned", lasting("turned*10", "turn 0;turn 1;"), 1);
        });
        edge("31: 999 at most", () -> {
            due("no STRAIN", lasting("0", ""), 999);
            due("after 998 openings no more", lasting("opened/998*60", ""), 998);
            due("after 999 openings no more", lasting("opened/999*60", ""), 999);
        });
        edge("31: 0 without STICKS", () -> {
            FanHouse house = new FanHouse();
            due("wide", house.lasts(0), 0);
            Checks.law(house, "0");
            due("no STRAIN", house.lasts(0), 0);
        });
        edge("31: (it is shut first, if it is not)", () -> {
            due("open", lasting("5", "open 0 1;"), 3);
            due("shut", lasting("5", "open 0 1;shut;"), 3);
            due("worn out", lasting("20", "open 0 1;"), 0);
        });
    }

    private static void sellers() {
        edge("32: SELLERS by v, w (0 to 99); IllegalArgumentException: another what", () -> {
            FanHouse house = full();
            illegal(house, "v", v -> house.sellers(v, 0, 0), -1, 100, LOW, HIGH);
            illegal(house, "w", w -> house.sellers(0, w, 0), -1, 100, LOW, HIGH);
            illegal(house, "what", what -> house.sellers(0, 0, what), -1, 3, LOW, HIGH);
            due("99, 99", house.sellers(99, 99, 2), 198);
        });
    }

    private static void year() {
        edge("33: A YEAR of so many SEASONS (1 to 48)", () -> {
            FanHouse house = full();
            illegal(house, "seasons", seasons -> house.year(1, 1, seasons, 0), -1, 0, 49, LOW, HIGH);
            due("1", house.year(1, 0, 1, 2), 7);
            due("46", house.year(1, 0, 46, 2), 97);
            due("47", house.year(1, 0, 47, 2), 99);
            due("48", house.year(1, 0, 48, 2), 99);
        });
        edge("33: Q (0 to 16)", () -> {
            FanHouse house = full();
            illegal(house, "q", q -> house.year(1, q, 1, 0), -1, 17, LOW, HIGH);
        });
        edge("33: IllegalArgumentException: another what", () -> {
            FanHouse house = full();
            illegal(house, "what", what -> house.year(1, 1, 1, what), -1, 4, LOW, HIGH);
        });
        edge("33: 0 how often it was opened in it", () -> {
            FanHouse house = Checks.house(THREE);
            Checks.law(house, "0");
            Checks.work(house, "again 9[open 0 1;shut;];");
            due("none of those ahead of it", house.year(1, 0, 48, 0), 0);
            due("no more than 4 times a SEASON", house.year(1, 16, 1, 0) < 5, true);
        });
    }

    private static void span() {
        edge("34: Of so many SEEDS (1 to 10; seed, seed and 1, ..)", () -> {
            FanHouse house = Checks.house(THREE);
            Checks.law(house, "1");
            illegal(house, "many", many -> house.span(1, many, 1, 1, 0), -1, 0, 11, LOW, HIGH);
            int[] seeds = {1, -5, HIGH, HIGH - 4, LOW};
            for (int seed : seeds) {
                int fewest = HIGH;
                int most = -1;
                for (int many = 1; many <= 10; many++) {
                    int openings = house.year(seed + many - 1, 13, 9, 0);
                    fewest = Math.min(fewest, openings);
                    most = Math.max(most, openings);
                    due("fewest of " + many, house.span(seed, many, 13, 9, 0), fewest);
                    due("most of " + many, house.span(seed, many, 13, 9, 1), most);
                }
                Checks.picture(house, seed % 2 == 0 ? "16;" : "9;");
            }
        });
        edge("34: 0 the fewest openings in it, 1 the most: none at all", () -> {
            FanHouse house = Checks.house(THREE);
            due("fewest", house.span(1, 10, 0, 48, 0), 0);
            due("most", house.span(1, 10, 0, 48, 1), 0);
            due("fewest, no STICKS", new FanHouse().span(1, 10, 16, 48, 0), 0);
            due("most, no STICKS", new FanHouse().span(1, 10, 16, 48, 1), 0);
        });
        edge("34: IllegalArgumentException: Q, SEASONS, what", () -> {
            FanHouse house = full();
            illegal(house, "q", q -> house.span(1, 1, q, 1, 0), -1, 17, LOW, HIGH);
            illegal(house, "seasons", seasons -> house.span(1, 1, 1, seasons, 0), -1, 0, 49, LOW, HIGH);
            illegal(house, "what", what -> house.span(1, 1, 1, 1, what), -1, 3, LOW, HIGH);
        });
        edge("34: 2 by how many VIEW 0, wide open, SHOWS the PICTURE then", () -> {
            FanHouse house = Checks.house(THREE);
            Checks.picture(house, "1;1;2;");
            due("all", house.span(1, 10, 0, 48, 2), 10);
            due("one", house.span(1, 1, 0, 1, 2), 1);
            Checks.picture(house, "2;1;1;");
            due("none", house.span(1, 10, 0, 48, 2), 0);
            Checks.picture(house, "16;16;16;16;");
            due("too long", house.span(1, 10, 16, 48, 2), 0);
            due("no STICKS", new FanHouse().span(1, 10, 16, 48, 2), 10);
        });
    }

    private static void image() {
        edge("35: how many there are; -1: there are 3", () -> {
            FanHouse house = Checks.house(THREE);
            for (int i = 1; i <= 3; i++) {
                Checks.work(house, "turn 0;");
                due("image", house.image(), i);
                due("IMAGES", house.count(0), i);
            }
            Checks.work(house, "turn 1;");
            due("the 4th", house.image(), -1);
            due("IMAGES", house.count(0), 3);
            due("restore", house.restore(), 2);
            due("the 3rd, not the 4th", house.told(6), 1);
            due("room for one", house.image(), 3);
            due("and no more", house.image(), -1);
        });
        edge("35: An IMAGE of all that WORK changes, and of the WORKS that can be undone", () -> {
            FanHouse house = Checks.house(THREE);
            Checks.work(house, "turn 0;swap 0 2;paint 0 0 9;season;open 1 2;");
            Checks.work(house, "oil;paint 1 1 9;");
            List<Integer> before = state(house);
            house.image();
            house.undo();
            house.undo();
            Checks.work(house, "turn 1;turn 2;open 3 3;paint 0 3 9;");
            house.restore();
            Checks.due("all of it", state(house).equals(before));
            due("undo", house.undo(), 1);
            due("half 1 of what lies at PLACE 1", house.mark(1, 1), 1);
            due("undo", house.undo(), 0);
            due("as told", house.told(6) + house.told(2) + house.told(4), 0);
            due("none", house.undo(), -1);
        });
        edge("35: an IMAGE of all 16 WORKS", () -> {
            FanHouse house = Checks.house(ALIKE.repeat(7));
            for (int i = 0; i < 16; i++) {
                Checks.work(house, "turn " + i % 7 + ";");
            }
            house.image();
            int[] over = new int[16];
            for (int i = 15; i >= 0; i--) {
                house.undo();
                over[i] = house.told(6);
            }
            for (int i = 0; i < 16; i++) {
                Checks.work(house, "season;");
            }
            house.restore();
            for (int i = 15; i >= 0; i--) {
                due("undo", house.undo(), i);
                due("over", house.told(6), over[i]);
            }
        });
    }

    private static void restore() {
        edge("36: how many are left; -1: there is none", () -> {
            FanHouse house = Checks.house(THREE);
            due("none", house.restore(), -1);
            house.image();
            house.image();
            house.image();
            due("2 left", house.restore(), 2);
            due("1 left", house.restore(), 1);
            due("0 left", house.restore(), 0);
            due("none", house.restore(), -1);
            due("IMAGES", house.count(0), 0);
        });
        edge("36: All is as in the latest IMAGE, which is gone", () -> {
            FanHouse house = Checks.house(THREE);
            for (int i = 0; i < 3; i++) {
                Checks.work(house, "turn " + i + ";");
                house.image();
            }
            Checks.work(house, "open 0 1;");
            int[] over = {7, 3, 1};
            for (int i = 0; i < 3; i++) {
                house.restore();
                due("over", house.told(6), over[i]);
                due("WORKS", house.count(2), 3 - i);
                due("shut", house.told(7), NONE);
            }
        });
        edge("36: where there is none, all stays", () -> {
            FanHouse house = Checks.house(THREE);
            Checks.work(house, "turn 0;open 0 1;paint 0 0 9;");
            List<Integer> before = state(house);
            due("none", house.restore(), -1);
            Checks.due("as it was", state(house).equals(before));
        });
        edge("36: what no WORK changes is not of an IMAGE", () -> {
            FanHouse house = full();
            Checks.law(house, "3");
            Checks.picture(house, "9;9;9;");
            Checks.other(house, "");
            Checks.book(house, "");
            Checks.feed(house, "x");
            house.restore();
            due("LAW", house.strain(0, 1), 3);
            due("PICTURE", house.told(11), 3);
            due("OTHER", house.told(12), 0);
            due("BOOK", house.told(9), 0);
            due("TAPE", house.count(1), 20);
        });
    }

    private static void status() {
        edge("37: 0 NoSuchElementException, 1 IllegalArgumentException; NONE for others", () -> {
            FanHouse house = full();
            due("none", house.status(0), 0);
            due("none", house.status(1), 0);
            Checks.missing("at", () -> house.at(3));
            Checks.missing("laid", () -> house.laid(9, 3));
            Checks.illegal("fan", () -> house.fan(1));
            due("2", house.status(0), 2);
            due("1", house.status(1), 1);
            int[] others = {-1, 2, LOW, HIGH};
            for (int other : others) {
                due("others", house.status(other), NONE);
            }
            due("not counted themselves", house.status(0) + house.status(1), 3);
        });
        edge("37: (No IMAGE keeps it.)", () -> {
            FanHouse house = full();
            house.image();
            Checks.missing("at", () -> house.at(3));
            Checks.illegal("fan", () -> house.fan(1));
            house.restore();
            due("1", house.status(0), 1);
            due("1", house.status(1), 1);
            house.undo();
            Checks.fan(house, THREE);
            due("nor a FAN", house.status(0) + house.status(1), 2);
        });
        edge("37: calls were refused: what answers below 0 is not", () -> {
            FanHouse house = with16();
            Checks.work(house, "");
            Checks.fan(house, "x");
            for (int i = 0; i < 31; i++) {
                house.feed(0, 0, 0, 0, 0);
            }
            for (int i = 0; i < 4; i++) {
                house.image();
            }
            for (int i = 0; i < 4; i++) {
                house.restore();
            }
            due("none", house.status(0) + house.status(1), 0);
        });
    }

    private static void count() {
        edge("38: 0 IMAGES, 1 bytes of the TAPE, 2 WORKS that can be undone; NONE for others", () -> {
            FanHouse house = full();
            house.image();
            house.work(0);
            house.work(0);
            Checks.feed(house, "x");
            due("IMAGES", house.count(0), 2);
            due("TAPE", house.count(1), 20);
            due("WORKS", house.count(2), 3);
            int[] others = {-1, 3, LOW, HIGH};
            for (int other : others) {
                due("others", house.count(other), NONE);
            }
            due("not refused", house.status(1), 0);
        });
    }

    private static void calls() {
        edge("An object is used for at most 512 calls after it has been made", () -> {
            FanHouse house = new FanHouse();
            house.feed(0x73746963, 0x6b203120, 0x32203320, 0x343b0000, 0);
            due("fan", house.fan(14), 1);
            for (int i = 3; i <= 510; i++) {
                Checks.illegal("refused", () -> house.mark(4, 0));
            }
            due("the 511th", house.status(1), 508);
            due("the 512th", house.mark(3, 0), 4);
        });
    }
}
