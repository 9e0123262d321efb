import java.util.ArrayList;
import java.util.List;

/** The edges of what is asked (the part "==== 3."), each sentence by itself. */
public final class QuestionEdgeTest {
    private static final String THREE = "stick 1 2 3 4;stick 1 1 5 5;stick 2 1 4 3;rivet 20;paint 3;";
    private static final String ALIKE = "stick 9 9 9 9;";
    private static final String SEASONS_160 = "again 40[season;season;season;season;];";
    private static final int NONE = FanHouse.NONE;
    private static final String[] STEPS_OF_FOUR = {"turn 0;", "turn 1;", "turn 2;", "turn 3;", "swap 0 1;", "swap 0 2;",
        "swap 0 3;", "swap 1 2;", "swap 1 3;", "swap 2 3;"};
    /** How FITS tells those. */
    private static final int[] TOLD_OF_FOUR = {0, 1, 2, 3, 101, 102, 103, 112, 113, 123};

    private QuestionEdgeTest() {
    }

    public static void main(String[] args) {
        asked();
        beyond();
        shows();
        lays();
        both();
        brush();
        near();
        lot();
        fits();
        look();
        sellers();
        yearGoes();
        yearActs();
        yearRefuses();
        draw();
        Checks.end("QuestionEdgeTest");
    }

    private static void edge(String words, Checks.Edge test) {
        Checks.edge(words, test);
    }

    private static void due(String what, long got, long want) {
        Checks.due(what, got, want);
    }

    private static FanHouse house(String fan, String picture) {
        FanHouse house = Checks.house(fan);
        Checks.picture(house, picture);
        return house;
    }

    private static FanHouse house(String fan, String picture, String other) {
        FanHouse house = house(fan, picture);
        Checks.other(house, other);
        return house;
    }

    private static FanHouse booked(String fan, String book) {
        FanHouse house = Checks.house(fan);
        Checks.book(house, book);
        return house;
    }

    /** What questions answer for which it is all the same whether it is open. */
    private static List<Integer> answers(FanHouse house) {
        List<Integer> all = new ArrayList<>();
        for (int view = 0; view < 4; view++) {
            all.add(house.strain(view, 3));
            all.add(house.would(view, 7, 1, 2, 3, 4, 5));
            all.add(house.mark(view, 1));
            all.add(house.marks(view));
            all.add(house.shows(view) ? 1 : 0);
            all.add(house.lays(view));
            all.add(house.laid(view, 1));
            all.add(house.both(view, 3 - view));
            all.add(house.brush(view));
            all.add(house.near(view));
            all.add(house.lot(view, 0));
            all.add(house.lot(view, 1));
            all.add(house.off(view));
            all.add(house.run(view, 0));
            all.add(house.run(view, 1));
            all.add(house.lasts(view));
        }
        for (int what = 0; what < 2; what++) {
            all.add(house.fits(what));
            all.add(house.look(what));
            all.add(house.ahead(5, what));
            all.add(house.sellers(7, 3, what));
        }
        all.add(house.even());
        return all;
    }

    private static List<Integer> state(FanHouse house) {
        List<Integer> all = new ArrayList<>();
        for (int what = 0; what < 13; what++) {
            all.add(house.told(what));
        }
        for (int stick = 0; stick < house.told(0); stick++) {
            for (int what = 0; what < 7; what++) {
                all.add(house.stick(stick, what));
            }
        }
        for (int what = 0; what < 3; what++) {
            all.add(house.count(what));
        }
        all.add(house.fault());
        all.add(house.seen(0));
        all.add(house.status(0));
        all.add(house.status(1));
        return all;
    }

    private static void alike(String what, List<Integer> got, List<Integer> want) {
        Checks.due(what + ": " + got + ", due is " + want, got.equals(want));
    }

    private static FanHouse asking(String work) {
        FanHouse house = house(THREE, "1;16;4;", "5;3;");
        Checks.book(house, "0 0 2;");
        Checks.law(house, "least[pots,wear]");
        Checks.work(house, "turn 0;swap 0 2;shut;paint 0 0 9;" + work);
        return house;
    }

    private static void asked() {
        edge("Asked, nothing stays changed", () -> {
            for (String work : new String[] {"", "open 2 2;", "season;oil;open 1 3;"}) {
                FanHouse house = asking(work);
                house.image();
                Checks.feed(house, "x");
                List<Integer> before = state(house);
                List<Integer> first = answers(house);
                for (int what = 0; what < 4; what++) {
                    house.year(77, 16, 48, what);
                    house.span(-3, 10, 16, 9, what % 3);
                }
                alike("the same answers", answers(house), first);
                alike("as it was", state(house), before);
            }
        });
        edge("Asked, nothing stays changed: what was asked ahead is all the same", () -> {
            FanHouse house = house(THREE, "9;1;", "16;");
            due("BRUSH", house.brush(0), 1);
            due("LAYS", house.lays(0), 0);
            due("BRUSH", house.brush(0), 1);
            due("BOTH", house.both(3, 1), 0);
            due("LAYS", house.lays(1), 0);
            Checks.picture(house, "");
            due("LAYS", house.lays(0), 48);
            due("BRUSH", house.brush(0), 0);
            due("NEAR", house.near(0), 0);
            due("BOTH", house.both(3, 1), 48);
            due("BRUSH", house.brush(0), 0);
            due("the first", house.laid(0, 2), 4);
        });
        edge("(open or shut is all the same)", () -> {
            List<Integer> shut = answers(asking(""));
            for (int view = 0; view < 4; view++) {
                alike("open at VIEW " + view, answers(asking("open " + view + " 1;")), shut);
            }
        });
    }

    private static FanHouse in400() {
        FanHouse house = Checks.house("stick 0 0 0 0;rivet 200;paint 0;");
        for (int i = 0; i < 3; i++) {
            Checks.work(house, SEASONS_160);
        }
        Checks.law(house, "60");
        // 99 pots less 50 leave room to see how they grow
        Checks.work(house, "again 25[paint 0 0 1;paint 0 0 2;];open 0 1;shut;open 0 1;shut;open 0 1;shut;");
        return house;
    }

    private static void beyond() {
        edge("SEASONS go by as by season (beyond 400, too)", () -> {
            FanHouse house = in400();
            due("SEASON", house.told(4), 400);
            due("pots", house.told(3), 49);
            due("worn", house.told(2), 180);
            for (int n = 0; n <= 24; n++) {
                due("pots ahead " + n, house.ahead(n, 1), 49 + 2 * n);
                due("worn ahead " + n, house.ahead(n, 0), 180 - 3 * n);
            }
            due("pots ahead 25", house.ahead(25, 1), 99);
            due("pots ahead 26", house.ahead(26, 1), 99);
            due("worn ahead 60", house.ahead(60, 0), 0);
            due("worn ahead 61", house.ahead(61, 0), 0);
            for (int n = 1; n <= 24; n++) {
                due("pots in a YEAR of " + n, house.year(5, 0, n, 2), 49 + 2 * n);
                due("worn in a YEAR of " + n, house.year(5, 0, n, 1), 180 - 3 * n);
            }
        });
        edge("(beyond 400, too): the LAW sees such a SEASON in a YEAR", () -> {
            FanHouse house = in400();
            Checks.work(house, "again 8[oil;];");
            Checks.law(house, "(season-400)*10");
            // what opens in the first SEASON costs 0, in the second one 10, and wear goes by 3 behind it
            int seed = seedOf(2, new int[] {0}, 1, 1);
            due("opened in the second SEASON", house.year(seed, 4, 2, 0), 1);
            due("worn by 10 less 3", house.year(seed, 4, 2, 1), 7);
        });
    }

    private static void shows() {
        edge("SHOWS the PICTURE, if it has as many MARKS as that one or more", () -> {
            due("as many", house(THREE, "1;1;2;").shows(0), true);
            due("as many, any", house(THREE, "16;16;16;").shows(0), true);
            due("more", house(THREE, "1;1;").shows(0), true);
            due("less", house(THREE, "1;1;2;16;").shows(0), false);
            due("less, any", house(THREE, "16;16;16;16;").shows(3), false);
            due("less by far", house("", "16;").shows(0), false);
            due("7 of 7", house(ALIKE.repeat(7), "9;9;9;9;9;9;9;").shows(2), true);
            due("7 of 6", house(ALIKE.repeat(6), "9;9;9;9;9;9;16;").shows(2), false);
        });
        edge("each that the PICTURE tells is there at its place", () -> {
            due("the first", house(THREE, "2;1;2;").shows(0), false);
            due("the last", house(THREE, "1;1;1;").shows(0), false);
            due("VIEW 2", house(THREE, "4;5;3;").shows(2), true);
            due("VIEW 2 from the other end", house(THREE, "3;5;4;").shows(2), false);
            due("any in between", house(THREE, "4;16;3;").shows(2), true);
        });
        edge("(so any row, one of no MARKS, too, SHOWS a PICTURE of no MARKS)", () -> {
            for (int view = 0; view < 4; view++) {
                due("no STICKS", new FanHouse().shows(view), true);
                due("three STICKS", house(THREE, "").shows(view), true);
            }
        });
    }

    private static void due(String what, boolean got, boolean want) {
        due(what, got ? 1 : 0, want ? 1 : 0);
    }

    private static void firstLay(FanHouse house, int view, int... want) {
        for (int place = 0; place < want.length; place++) {
            due("laid(" + view + ", " + place + ")", house.laid(view, place), want[place]);
        }
    }

    private static void lays() {
        edge("(without STICKS there is one way)", () -> {
            due("no MARKS", new FanHouse().lays(0), 1);
            due("a MARK", house("", "16;").lays(0), 0);
        });
        edge("LAYS of a VIEW: all ways to lay the STICKS on the PLACES, each as told or turned over", () -> {
            int ways = 1;
            for (int n = 1; n <= 7; n++) {
                ways *= 2 * n;
                due("of " + n, Checks.house(ALIKE.repeat(n)).lays(n % 4), ways);
            }
            due("alike ones", house(ALIKE.repeat(7), "9;9;9;9;9;9;9;").lays(3), 645120);
            due("all but one", house(ALIKE.repeat(6) + "stick 9 8 8 9;", "16;9;").lays(1), 6 * 2 * 720 * 64);
            due("by one half", house("stick 1 0 0 2;stick 1 0 0 2;", "1;2;").lays(0), 2);
            due("none", house(THREE, "9;").lays(0), 0);
        });
        edge("LAYS: as they are painted now", () -> {
            FanHouse house = house("stick 1 2 3 4;", "9;");
            due("none", house.lays(0), 0);
            Checks.work(house, "turn 0;paint 0 0 9;");
            due("one", house.lays(0), 1);
            due("turned over", house.laid(0, 0), 1);
            due("as told", house.laid(3, 0), 0);
        });
        edge("LAYS: PICTURE of more MARKS than STICKS", () -> {
            due("none", house(THREE, "16;16;16;16;").lays(0), 0);
            due("none of them", house(THREE, "16;16;16;16;").laid(0, 0), NONE);
            due("as many", house(THREE, "16;16;16;").lays(0), 48);
        });
        edge("the first of them: PLACE by PLACE the STICK of least number", () -> {
            firstLay(Checks.house(ALIKE.repeat(7)), 2, 0, 2, 4, 6, 8, 10, 12);
            firstLay(house("stick 1 0 0 2;stick 1 0 0 0;", "1;2;"), 0, 2, 1);
            firstLay(house("stick 9 0 0 9;stick 1 0 0 2;stick 1 0 0 0;", "1;2;"), 0, 4, 3, 0);
            firstLay(house("stick 9 9 9 9;stick 8 8 8 8;stick 1 0 0 2;stick 1 0 0 0;", "2;1;"), 3, 0, 2, 7, 4);
            firstLay(house(THREE, "2;"), 2, 2, 4, 1);
            firstLay(house(THREE, "16;2;"), 0, 0, 4, 2);
            firstLay(house("stick 1 2 3 4;stick 5 6 7 8;stick 9 10 11 12;", "6;"), 1, 2, 0, 4);
            firstLay(house("stick 1 2 3 4;stick 5 6 7 8;stick 9 10 11 12;", "7;"), 2, 0, 4, 2);
            firstLay(house("stick 1 2 3 4;stick 5 6 7 8;stick 9 10 11 12;", "16;4;"), 3, 2, 0, 4);
            firstLay(house("stick 1 2 3 4;stick 5 6 7 8;stick 9 10 11 12;", "16;16;1;"), 3, 1, 2, 4);
            firstLay(house("stick 1 2 3 4;stick 5 6 7 8;stick 9 10 11 12;", "16;16;3;"), 1, 2, 4, 1);
            firstLay(house(THREE, "5;1;3;"), 0, 3, 0, 5);
            firstLay(house(THREE, "5;1;1;"), 0, NONE, NONE, NONE);
        });
        edge("as told ahead of turned over", () -> {
            firstLay(house("stick 5 0 0 5;", "5;"), 0, 0);
            firstLay(house("stick 4 0 0 5;", "5;"), 0, 1);
            firstLay(house("stick 4 0 0 5;", "4;"), 0, 0);
            firstLay(house("stick 4 0 0 5;", "5;"), 3, 0);
            FanHouse house = house("stick 4 0 0 5;stick 4 0 0 4;", "16;5;");
            Checks.work(house, "turn 0;turn 1;");
            firstLay(house, 0, 2, 1);
        });
    }

    private static void both() {
        edge("BOTH of two VIEWS: ways so that the first one SHOWS the PICTURE and the second one SHOWS the OTHER", () -> {
            due("all", Checks.house(THREE).both(0, 0), 48);
            due("no STICKS", new FanHouse().both(1, 2), 1);
            due("PICTURE too long", house(THREE, "16;16;16;16;", "").both(0, 0), 0);
            due("OTHER too long", house(THREE, "", "16;16;16;16;").both(0, 0), 0);
            due("no STICKS, OTHER too long", house("", "", "16;").both(0, 0), 0);
            due("PICTURE alone", house(THREE, "9;", "").both(0, 0), 0);
            due("OTHER alone", house(THREE, "", "9;").both(0, 0), 0);
        });
        edge("BOTH: one VIEW twice", () -> {
            due("alike", house("stick 1 2 3 4;", "1;", "1;").both(0, 0), 1);
            due("unlike", house("stick 1 2 3 4;", "1;", "4;").both(0, 0), 0);
            due("any", house("stick 1 2 3 4;", "1;", "16;").both(0, 0), 1);
        });
        edge("BOTH: of one STICK the same way for both", () -> {
            due("as told", house("stick 1 2 3 4;", "1;", "4;").both(0, 3), 1);
            due("turned over", house("stick 1 2 3 4;", "4;", "1;").both(0, 3), 1);
            due("neither", house("stick 1 2 3 4;", "1;", "1;").both(0, 3), 0);
            due("from both ends", house("stick 1 2 3 4;stick 5 6 7 8;", "1;", "7;").both(0, 2), 1);
            due("of one PLACE", house("stick 1 2 3 4;stick 5 6 7 8;", "1;", "16;3;").both(0, 2), 2);
        });
    }

    private static void brush() {
        edge("BRUSH (0, if there is one)", () -> {
            due("no MARKS", Checks.house(THREE).brush(0), 0);
            due("any", house(THREE, "16;16;16;").brush(0), 0);
            due("elsewhere", house(THREE, "2;1;1;").brush(0), 0);
            due("turned over", house("stick 1 2 3 4;", "4;").brush(0), 0);
            due("no STICKS", new FanHouse().brush(3), 0);
        });
        edge("NONE: the PICTURE has more MARKS than there are STICKS", () -> {
            due("4 of 3", house(THREE, "16;16;16;16;").brush(0), NONE);
            due("3 of 3", house(THREE, "9;9;9;").brush(0), 3);
            due("1 of 0", house("", "16;").brush(0), NONE);
        });
        edge("the fewest halves that have to be painted, each with any MARK (pots all the same)", () -> {
            due("no pots", house("stick 1 2 3 4;paint 0;", "9;").brush(0), 1);
            due("7", house(ALIKE.repeat(7), "8;8;8;8;8;8;8;").brush(1), 7);
            due("6", house(ALIKE.repeat(7), "8;8;8;9;8;8;8;").brush(1), 6);
            due("those that fit stay", house("stick 1 0 0 2;stick 1 0 0 0;", "1;2;").brush(0), 0);
            due("as they lie", house("stick 1 0 0 0;stick 2 0 0 0;", "1;2;").brush(0), 0);
            due("the other way round", house("stick 1 0 0 0;stick 2 0 0 0;", "2;1;").brush(0), 0);
            due("one of three", house("stick 1 0 0 0;stick 2 0 0 0;stick 3 0 0 0;", "1;2;9;").brush(0), 1);
            due("one of three", house("stick 1 0 0 0;stick 2 0 0 0;stick 3 0 0 0;", "9;1;2;").brush(0), 1);
            due("one of three", house("stick 1 0 0 0;stick 2 0 0 0;stick 3 0 0 0;", "3;9;1;").brush(0), 1);
            due("one of them", house("stick 1 0 0 2;stick 1 0 0 3;", "2;2;").brush(0), 1);
            due("by its half, not by any", house("stick 1 2 3 4;", "2;").brush(0), 1);
        });
    }

    private static int near(String fan, String work, String picture, int view) {
        FanHouse house = house(fan, picture);
        Checks.work(house, work);
        return house.near(view);
    }

    private static void near() {
        edge("NEAR (0, if they do)", () -> {
            due("no MARKS", near(THREE, "turn 0;", "", 0), 0);
            due("any", near(THREE, "swap 0 1;", "16;16;16;", 0), 0);
            due("as it lies", near(THREE, "swap 0 2;turn 0;", "3;1;1;", 0), 0);
            due("no STICKS", new FanHouse().near(0), 0);
        });
        edge("NEAR, NONE: there is none", () -> {
            due("no such MARK", near(THREE, "", "9;", 0), NONE);
            due("too long", near(THREE, "", "16;16;16;16;", 0), NONE);
            due("no STICKS", house("", "16;").near(0), NONE);
        });
        edge("by how few swaps and turns together, as if it were shut", () -> {
            String four = "stick 0 1 1 1;stick 1 2 2 2;stick 2 3 3 3;stick 3 4 4 4;";
            due("a turn", near("stick 1 2 3 4;", "", "4;", 0), 1);
            due("a turn back", near("stick 1 2 3 4;", "turn 0;", "1;", 0), 1);
            due("a swap", near(four, "", "16;16;3;2;", 0), 1);
            due("two swaps", near(four, "", "1;0;3;2;", 0), 2);
            due("of three in a round two swaps", near(four, "", "1;2;0;", 0), 2);
            due("of four in a round three swaps", near(four, "", "1;2;3;0;", 0), 3);
            due("a swap ahead of two turns", near("stick 1 0 0 2;stick 2 0 0 1;", "", "2;1;", 0), 1);
            due("a turn, not a swap and more", near("stick 1 0 0 2;stick 2 0 0 3;", "", "2;2;", 0), 1);
            due("open", near("stick 1 0 0 2;stick 2 0 0 1;", "open 0 1;", "2;1;", 0), 1);
            due("from the last PLACE on", near(four, "", "3;16;2;", 2), 1);
            nearByEachStep("stick 0 1 1 1;stick 1 0 2 0;stick 0 2 1 1;stick 1 1 0 0;");
            nearByEachStep("stick 0 1 1 0;stick 0 0 2 1;stick 2 2 1 0;stick 1 1 0 2;");
            due("the most", near("stick 0 0 0 1;stick 2 2 2 3;stick 4 4 4 5;stick 6 6 6 7;stick 8 8 8 9;"
                    + "stick 10 10 10 11;stick 12 12 12 13;", "", "3;5;7;9;11;13;1;", 0), 13);
        });
    }

    /** 0, if the VIEW SHOWS the PICTURE, or one more than the least behind a turn or a swap. */
    private static void nearByEachStep(String fan) {
        String[] works = {"", "swap 0 1;swap 2 3;turn 1;", "swap 0 3;swap 1 3;swap 0 2;turn 0;turn 2;"};
        String[] pictures = {"0;1;", "16;0;0;", "1;16;1;0;", "2;1;", "0;0;1;1;", "1;0;2;0;"};
        for (String work : works) {
            for (String picture : pictures) {
                for (int view = 0; view < 4; view++) {
                    int least = near(fan, work, picture, view);
                    int by = 99;
                    for (String step : STEPS_OF_FOUR) {
                        int behind = near(fan, work + step, picture, view);
                        by = behind == NONE ? by : Math.min(by, behind + 1);
                    }
                    FanHouse house = house(fan, picture);
                    Checks.work(house, work);
                    due("NEAR of VIEW " + view + " '" + picture + "' behind '" + work + "'", least,
                            house.shows(view) ? 0 : by == 99 ? NONE : by);
                }
            }
        }
    }

    private static void chance(FanHouse house, int view, int above, int below) {
        due("above", house.lot(view, 0), above);
        due("below", house.lot(view, 1), below);
    }

    private static void lot() {
        edge("LOT: in least terms (0 by 1, if it can't be)", () -> {
            chance(house(THREE, "9;"), 0, 0, 1);
            chance(house(THREE, "16;16;16;16;"), 0, 0, 1);
            chance(house("", "16;"), 0, 0, 1);
        });
        edge("LOT: it is sure", () -> {
            chance(new FanHouse(), 3, 1, 1);
            chance(Checks.house(ALIKE.repeat(7)), 3, 1, 1);
            chance(house(THREE, "16;16;16;"), 3, 1, 1);
            chance(house(ALIKE.repeat(7), "9;9;9;9;9;9;9;"), 0, 1, 1);
        });
        edge("LOT: each order of the STICKS is as likely, each STICK turned over or not, too", () -> {
            chance(house("stick 1 2 3 4;", "1;"), 0, 1, 2);
            chance(house("stick 1 2 3 4;stick 5 6 7 8;", "1;"), 0, 1, 4);
            chance(house("stick 1 2 3 1;stick 5 6 7 8;stick 1 1 1 1;", "1;"), 0, 2, 3);
            chance(house("stick 1 2 3 1;stick 5 6 7 1;stick 1 1 1 1;", "1;"), 0, 5, 6);
            chance(house("stick 0 0 0 1;stick 2 2 2 3;stick 4 4 4 5;stick 6 6 6 7;stick 8 8 8 9;"
                    + "stick 10 10 10 11;stick 12 12 12 13;", "0;2;4;6;8;10;12;"), 0, 1, 645120);
        });
    }

    private static void fit(String fan, String book, int many, int first) {
        FanHouse house = booked(fan, book);
        due("FITS by '" + book + "'", house.fits(0), many);
        due("the first by '" + book + "'", house.fits(1), first);
    }

    private static void fits() {
        edge("FITS by BOOK: single turns, and single swaps (of unlike PLACES, the lesser one first)", () -> {
            fit("", "", 0, NONE);
            fit("", "0 0 0;", 0, NONE);
            for (int n = 1; n <= 7; n++) {
                fit(ALIKE.repeat(n), "", n + n * (n - 1) / 2, 0);
                fit(ALIKE.repeat(n), "0 0 9;", n + n * (n - 1) / 2, 0);
            }
            fit("stick 1 0 0 1;stick 2 0 0 2;", "0 0 2;", 1, 101);
        });
        edge("all lines are right (of two of one V and K both)", () -> {
            fit(THREE, "0 0 4;0 0 2;", 0, NONE);
            fit(THREE, "0 0 4;0 0 4;", 1, 0);
            fit(THREE, "0 0 4;0 1 1;", 1, 0);
            fit(THREE, "0 0 4;0 1 2;", 0, NONE);
        });
        edge("FITS: as it lies is none of them", () -> {
            fit("stick 1 2 3 4;", "0 0 1;", 0, NONE);
            fit("stick 1 2 3 4;", "0 0 4;", 1, 0);
        });
        edge("FITS: a line of a K that is not below how many STICKS there are is never right", () -> {
            fit(THREE, "0 3 1;", 0, NONE);
            fit(THREE, "2 6 3;", 0, NONE);
            fit(ALIKE.repeat(7), "2 6 9;", 28, 0);
            fit(ALIKE.repeat(6), "2 6 9;", 0, NONE);
        });
        edge("FITS: were it shut", () -> {
            FanHouse house = booked(THREE, "0 0 4;");
            Checks.work(house, "open 0 1;");
            due("a turn", house.fits(1), 0);
            Checks.book(house, "0 0 2;0 2 1;");
            due("a swap", house.fits(1), 102);
            due("still open", house.told(7), 0);
        });
        edge("turns ahead of swaps, by PLACES", () -> {
            String seven = "stick 1 0 0 1;".repeat(5) + "stick 2 0 0 2;stick 3 0 0 4;";
            fit(seven, "0 6 4;", 1, 6);
            fit(seven, "0 6 2;", 1, 156);
            fit(seven, "0 5 3;0 6 2;", 1, 156);
            fit(seven, "0 0 2;", 1, 105);
            fit(seven, "0 4 3;", 1, 146);
            fit(seven, "0 0 1;", 5 + 1 + 1 + 21 - 2, 0);
            fit(seven, "0 6 1;", 5, 106);
            fit("stick 1 0 0 2;stick 2 0 0 1;", "0 0 2;", 2, 0);
            fit("stick 1 0 0 1;stick 1 0 0 2;stick 2 0 0 1;", "0 1 2;", 2, 1);
        });
        edge("a turn of P is told as P, a swap of P and Q as 100 and 10 times P and Q", () -> {
            fit(THREE, "0 2 3;", 1, 2);
            fit(THREE, "0 1 2;", 1, 112);
            fit(THREE, "0 0 2;", 1, 102);
            fit("stick 1 1 1 1;stick 2 2 2 2;", "0 0 2;", 1, 101);
        });
    }

    private static void looks(String fan, String book, int where, int left) {
        FanHouse house = booked(fan, book);
        due("LOOK by '" + book + "'", house.look(0), where);
        due("left by '" + book + "'", house.look(1), left);
    }

    private static void look() {
        edge("LOOK, NONE both: all are in lines, or there are no STICKS", () -> {
            looks("", "", NONE, NONE);
            looks("", "0 0 1;", NONE, NONE);
            looks("stick 1 2 3 4;", "0 0 4;1 0 3;2 0 2;3 0 1;", NONE, NONE);
            looks("stick 1 2 3 4;", "3 0 9;2 0 2;1 0 3;0 0 4;", NONE, NONE);
            looks("stick 1 2 3 4;", "0 0 4;1 0 3;2 0 2;", 30, 1);
            looks("stick 1 2 3 4;", "1 0 3;2 0 2;3 0 1;", 0, 1);
        });
        edge("VIEW V and K (below how many STICKS there are) in no line", () -> {
            looks("stick 1 2 3 4;", "0 0 4;", 10, 1);
            looks("stick 1 2 3 4;", "0 0 4;0 1 1;", 10, 0);
            looks("stick 1 2 3 4;", "1 0 3;2 0 2;3 0 1;0 6 1;", 0, 0);
            looks("stick 1 1 1 1;stick 1 1 1 1;", "0 0 1;0 1 1;1 0 1;1 1 1;2 0 1;2 1 1;", 30, 3);
            looks("stick 1 1 1 1;stick 1 1 1 1;", "0 0 1;0 1 1;1 0 1;1 1 1;2 0 1;2 1 1;3 0 1;", 31, 3);
        });
        edge("LOOK: whatever MARK is seen there, fewest of FITS are left at the worst", () -> {
            // At 0 2: 2 by turns 0 and 1 and the swap of them, 3 by turn 2, 1 by the other two swaps
            looks(THREE, "", 2, 3);
            looks("stick 1 2 3 4;", "", 0, 1);
            looks("stick 1 1 1 1;stick 1 1 1 1;", "", 0, 3);
            looks("stick 1 1 1 1;stick 1 5 5 1;", "", 10, 2);
        });
        edge("LOOK: each MARK, 0 to 15", () -> {
            for (int mark = 0; mark < 16; mark++) {
                String all = "stick " + mark + " " + mark + " " + mark + " " + mark + ";";
                looks(all.repeat(3), "", 0, 6);
            }
        });
        edge("LOOK: by all that is seen behind each of FITS", () -> {
            String[] books = {"", "0 0 0;", "0 0 1;1 1 0;", "2 0 1;", "3 3 0;2 1 1;", "0 1 1;0 2 0;0 3 1;", "0 0 0;0 0 1;"};
            for (String book : books) {
                lookByEachStep("stick 0 1 1 1;stick 1 0 2 0;stick 0 2 1 1;stick 1 1 0 0;", book);
                lookByEachStep("stick 0 1 1 0;stick 0 0 2 1;stick 2 2 1 0;stick 1 1 0 2;", book);
                lookByEachStep("stick 3 1 5 7;stick 3 1 5 7;stick 7 1 5 3;stick 0 15 15 0;", book);
            }
        });
        edge("LOOK: no FITS are left", () -> {
            looks(THREE, "0 6 1;", 0, 0);
            looks(THREE, "0 0 4;0 0 2;", 1, 0);
        });
        edge("of these the first (by VIEWS, then K", () -> {
            looks(ALIKE.repeat(7), "", 0, 28);
            looks(ALIKE.repeat(7), "0 0 9;0 1 9;0 2 9;0 3 9;0 4 9;0 5 9;", 6, 28);
            looks(ALIKE.repeat(7), "0 0 9;0 1 9;0 2 9;0 3 9;0 4 9;0 5 9;0 6 9;", 10, 28);
        });
    }

    /** FITS and LOOK by doing each turn and swap, and reading what is seen then. */
    private static void lookByEachStep(String fan, String book) {
        String work = "swap 0 2;turn 1;";
        List<FanHouse> fits = new ArrayList<>();
        int first = NONE;
        for (int i = 0; i < STEPS_OF_FOUR.length; i++) {
            FanHouse house = Checks.house(fan);
            Checks.work(house, work + STEPS_OF_FOUR[i]);
            if (isRight(house, book)) {
                first = fits.isEmpty() ? TOLD_OF_FOUR[i] : first;
                fits.add(house);
            }
        }
        FanHouse asked = booked(fan, book);
        Checks.work(asked, work + "open 0 1;");
        due("FITS by '" + book + "'", asked.fits(0), fits.size());
        due("the first by '" + book + "'", asked.fits(1), first);
        int where = NONE;
        int left = 99;
        for (int spot = 0; spot < 16; spot++) {
            int worst = 0;
            for (int mark = 0; mark < 16; mark++) {
                int many = 0;
                for (FanHouse house : fits) {
                    many += house.mark(spot / 4, spot % 4) == mark ? 1 : 0;
                }
                worst = Math.max(worst, many);
            }
            if (!(";" + book).contains(";" + spot / 4 + " " + spot % 4 + " ") && worst < left) {
                left = worst;
                where = 10 * (spot / 4) + spot % 4;
            }
        }
        due("LOOK by '" + book + "'", asked.look(0), where);
        due("left by '" + book + "'", asked.look(1), left);
    }

    private static boolean isRight(FanHouse house, String book) {
        boolean right = true;
        for (String line : book.split(";")) {
            if (!line.isEmpty()) {
                String[] x = line.split(" ");
                right &= house.mark(Integer.parseInt(x[0]), Integer.parseInt(x[1])) == Integer.parseInt(x[2]);
            }
        }
        return right;
    }

    private static void sell(int v, int w, int many, int first, int together) {
        FanHouse house = new FanHouse();
        String call = "sellers(" + v + ", " + w + ")";
        due(call + " RESTS", house.sellers(v, w, 0), many);
        due(call + " first", house.sellers(v, w, 1), first);
        due(call + " together", house.sellers(v, w, 2), together);
    }

    private static void sellByTable(int v, int w) {
        int[][] one = {{v, 0}, {w, w / 2}};
        int many = 0;
        int first = NONE;
        int together = 0;
        for (int i = 3; i >= 0; i--) {
            int his = i / 2;
            int others = i % 2;
            if (one[his][others] >= one[1 - his][others] && one[others][his] >= one[1 - others][his]) {
                many++;
                first = 10 * his + others;
                together = one[his][others] + one[others][his];
            }
        }
        sell(v, w, many, first, together);
    }

    private static void sellers() {
        edge("both little: each has w by 2 (cut)", () -> {
            sell(0, 1, 3, 1, 1);
            sell(0, 2, 1, 11, 2);
            sell(0, 3, 1, 11, 2);
            sell(9, 99, 1, 11, 98);
        });
        edge("RESTS: neither would have more by the other thing", () -> {
            sell(0, 0, 4, 0, 0);
            sell(1, 0, 2, 0, 2);
            sell(1, 1, 4, 0, 2);
            sell(2, 1, 2, 0, 4);
            sell(2, 2, 2, 0, 4);
            sell(1, 2, 1, 11, 2);
            sell(5, 5, 2, 0, 10);
            sell(5, 6, 1, 11, 6);
            sell(6, 5, 2, 0, 12);
            sell(99, 99, 2, 0, 198);
            sell(99, 0, 2, 0, 198);
            sell(0, 99, 1, 11, 98);
        });
        edge("SELLERS by each v, w (0 to 99): of what both have, told as a table", () -> {
            for (int v = 0; v < 100; v++) {
                for (int w = 0; w < 100; w++) {
                    sellByTable(v, w);
                }
            }
        });
    }

    // YEAR. What a SEED draws is told here a second time, by numbers of 64 bits.

    private static long drawn;

    private static int draws(int by) {
        drawn = (drawn * 1103515245L + 12345L) % 4294967296L;
        return (int) (drawn / 65536 % 32768 % by);
    }

    /** What is drawn in a SEASON, as rows: the kind of STEP, then its numbers. */
    private static List<int[]> season(int q, int sticks) {
        List<int[]> acts = new ArrayList<>();
        for (int i = 0; i < 4; i++) {
            if (draws(16) >= q || sticks == 0) {
                continue;
            }
            int kind = draws(6);
            switch (kind) {
                case 0 -> acts.add(new int[] {kind, draws(4), draws(sticks) + 1});
                case 2 -> acts.add(new int[] {kind, draws(sticks), draws(sticks)});
                case 3 -> acts.add(new int[] {kind, draws(sticks)});
                case 4 -> acts.add(new int[] {kind, draws(sticks), draws(4), draws(16)});
                default -> acts.add(new int[] {kind});
            }
        }
        return acts;
    }

    private static List<int[]> firstSeason(int seed, int q, int sticks) {
        drawn = seed & 0xffffffffL;
        return season(q, sticks);
    }

    private static boolean isOf(List<int[]> acts, int... kinds) {
        boolean alike = acts.size() == kinds.length;
        for (int i = 0; alike && i < kinds.length; i++) {
            alike = acts.get(i)[0] == kinds[i];
        }
        return alike;
    }

    /** The first seed from one on by which, at Q 4, the last of so many SEASONS alone has such acts. */
    private static int seedOf(int seasons, int[] kinds, int sticks, int from) {
        for (int seed = from; seed < from + 5000000; seed++) {
            drawn = seed & 0xffffffffL;
            boolean fine = true;
            for (int i = 1; fine && i < seasons; i++) {
                fine = season(4, sticks).isEmpty();
            }
            if (fine && isOf(season(4, sticks), kinds)) {
                return seed;
            }
        }
        throw new IllegalStateException("no seed");
    }

    private static void yearGoes() {
        edge("A YEAR by a SEED, for so many SEASONS: behind the four times season", () -> {
            FanHouse house = Checks.house("stick 0 0 0 0;rivet 200;paint 0;");
            Checks.law(house, "60");
            Checks.work(house, "open 0 1;shut;open 0 1;shut;open 0 1;");
            for (int seasons = 1; seasons <= 48; seasons++) {
                due("worn", house.year(1, 0, seasons, 1), 180 - 3 * seasons);
                due("pots", house.year(1, 0, seasons, 2), 2 * seasons);
            }
        });
        edge("four times, one behind the other", () -> {
            // 4 turns in a SEASON, then a fifth DRAW that is none of it any more
            FanHouse house = Checks.house("stick 0 0 0 0;".repeat(7));
            int found = 0;
            for (int seed = 0; found < 30; seed++) {
                List<int[]> acts = firstSeason(seed, 16, 7);
                if (isOf(acts, 3, 3, 3, 3)) {
                    int over = 0;
                    for (int[] act : acts) {
                        over ^= 1 << act[1];
                    }
                    due("over by " + seed, house.year(seed, 16, 1, 3), over);
                    found++;
                }
            }
        });
        edge("DRAW by 16: is it below Q", () -> {
            FanHouse house = Checks.house("stick 0 0 0 0;");
            for (int least = 0; least < 12; least++) {
                int seed = 0;
                while (leastDraw(seed) != least || !isOf(firstSeason(seed, least + 1, 1), 3)) {
                    seed++;
                }
                due("Q " + least, house.year(seed, least, 1, 3), 0);
                due("Q " + (least + 1), house.year(seed, least + 1, 1, 3), 1);
            }
        });
        edge("Q (0 to 16): by 0 nothing is done, by 16 each time", () -> {
            FanHouse house = Checks.house("stick 0 0 0 0;".repeat(7) + "rivet 200;");
            for (int seed = -20; seed < 20; seed++) {
                due("opened by 0", house.year(seed, 0, 48, 0), 0);
                due("over by 0", house.year(seed, 0, 48, 3), 0);
                due("acts by 16", firstSeason(seed, 16, 7).size(), 4);
                due("over by 16", house.year(seed, 16, 5, 3), overBy(seed, 5));
            }
        });
        edge("and are there STICKS", () -> {
            FanHouse house = Checks.house("paint 0;");
            for (int seed = -20; seed < 20; seed++) {
                due("opened", house.year(seed, 16, 48, 0), 0);
                due("worn", house.year(seed, 16, 48, 1), 0);
                due("pots", house.year(seed, 16, 9, 2), 18);
                due("over", house.year(seed, 16, 48, 3), 0);
            }
        });
    }

    private static int leastDraw(int seed) {
        drawn = seed & 0xffffffffL;
        int least = 15;
        for (int i = 0; i < 4; i++) {
            least = Math.min(least, draws(16));
        }
        return least;
    }

    /** STICKS turned over by a YEAR of 7 at Q 16, in which opening costs no more than rivet bears. */
    private static int overBy(int seed, int seasons) {
        Model model = new Model();
        String text = "stick 0 0 0 0;".repeat(7) + "rivet 200;";
        byte[] bytes = text.getBytes(java.nio.charset.StandardCharsets.ISO_8859_1);
        for (int i = 0; i < bytes.length; i += 20) {
            int[] five = new int[5];
            for (int k = 0; k < 20; k++) {
                five[k / 4] = five[k / 4] << 8 | (i + k < bytes.length ? bytes[i + k] & 255 : 0);
            }
            model.feed(five[0], five[1], five[2], five[3], five[4]);
        }
        model.fan(bytes.length);
        return model.year(seed, 16, seasons, 3);
    }

    private static void yearActs() {
        edge("0 open (V DRAWN by 4, N DRAWN by how many STICKS and 1 more)", () -> {
            for (int sticks = 1; sticks <= 7; sticks++) {
                FanHouse house = Checks.house("stick 0 0 0 0;".repeat(sticks) + "rivet 200;");
                Checks.law(house, "20+view*8+wide");
                int views = 0;
                int wides = 0;
                int seed = 0;
                for (int i = 0; i < 300 && (views != 15 || wides != (1 << sticks) - 1); i++) {
                    seed = seedOf(1, new int[] {0}, sticks, seed + 1);
                    int[] act = firstSeason(seed, 4, sticks).get(0);
                    views |= 1 << act[1];
                    wides |= 1 << act[2] - 1;
                    if (i < 30) {
                        due("worn", house.year(seed, 4, 1, 1), 17 + 8 * act[1] + act[2]);
                        due("opened", house.year(seed, 4, 1, 0), 1);
                    }
                }
                due("all VIEWS", views, 15);
                due("all widths", wides, (1 << sticks) - 1);
            }
        });
        edge("1 shut", () -> {
            int seed = seedOf(1, new int[] {1, 0}, 3, 1);
            FanHouse house = Checks.house(THREE);
            Checks.work(house, "open 0 1;");
            due("shut and opened", house.year(seed, 4, 1, 0), 1);
            due("opened again and again", house.year(seedOf(1, new int[] {0, 1, 0}, 3, 1), 4, 1, 0), 1);
            due("not shut", house.year(seedOf(1, new int[] {0, 0}, 3, 1), 4, 1, 0), 0);
        });
        edge("2 swap (both DRAWN by how many STICKS)", () -> {
            int seed = 0;
            for (int i = 0; i < 60; i++) {
                seed = seedOf(1, new int[] {2}, 3, seed + 1);
                int[] act = firstSeason(seed, 4, 3).get(0);
                int[] row = {0, 1, 2};
                row[act[1]] = act[2];
                row[act[2]] = act[1];
                String fan = "stick 0 9 9 9;stick 1 9 9 9;stick 2 9 9 9;";
                due("swapped", house(fan, row[0] + ";" + row[1] + ";" + row[2] + ";").span(seed, 1, 4, 1, 2), 1);
                due("not as it was", house(fan, "0;1;2;").span(seed, 1, 4, 1, 2), act[1] == act[2] ? 1 : 0);
            }
        });
        edge("3 turn (DRAWN likewise)", () -> {
            for (int sticks = 1; sticks <= 7; sticks++) {
                FanHouse house = Checks.house("stick 0 0 0 0;".repeat(sticks));
                int seed = 0;
                for (int i = 0; i < 30; i++) {
                    seed = seedOf(1, new int[] {3}, sticks, seed + 1);
                    due("over", house.year(seed, 4, 1, 3), 1 << firstSeason(seed, 4, sticks).get(0)[1]);
                }
            }
        });
        edge("4 paint (P DRAWN likewise, H by 4, M by 16)", () -> {
            int seed = 0;
            for (int i = 0; i < 100; i++) {
                seed = seedOf(1, new int[] {4}, 3, seed + 1);
                int[] act = firstSeason(seed, 4, 3).get(0);
                int[] row = {5, 5, 5};
                row[act[1]] = act[2] == 0 ? act[3] : 5;
                FanHouse house = house("stick 5 5 5 5;stick 5 5 5 5;stick 5 5 5 5;paint 1;",
                        row[0] + ";" + row[1] + ";" + row[2] + ";");
                due("painted", house.span(seed, 1, 4, 1, 2), 1);
                due("pots", house.year(seed, 4, 1, 2), act[3] == 5 ? 3 : 2);
            }
        });
        edge("5 oil", () -> {
            FanHouse house = Checks.house("stick 0 0 0 0;rivet 200;");
            Checks.law(house, "51");
            Checks.work(house, "open 0 1;");
            due("25 of 51, less 3", house.year(seedOf(1, new int[] {5}, 1, 1), 4, 1, 1), 22);
            due("12 of 25, less 3", house.year(seedOf(1, new int[] {5, 5}, 1, 1), 4, 1, 1), 9);
            due("51 less 3", house.year(seedOf(1, new int[] {}, 1, 1), 4, 1, 1), 48);
        });
    }

    private static void yearRefuses() {
        edge("(each done, if it can be; all that is DRAWN for it is DRAWN, whether it can be done or not)", () -> {
            int[] kinds = {0, 2, 4};
            for (int kind : kinds) {
                int seed = 0;
                for (int i = 0; i < 40; i++) {
                    seed = seedOf(1, new int[] {kind, 3}, 5, seed + 1);
                    FanHouse house = Checks.house("stick 0 0 0 0;".repeat(5) + "rivet 1;paint 0;");
                    Checks.law(house, "2");
                    int over = firstSeason(seed, 4, 5).get(1)[1];
                    int swapped = over;
                    int[] act = firstSeason(seed, 4, 5).get(0);
                    if (kind == 2) {
                        swapped = over == act[1] ? act[2] : over == act[2] ? act[1] : over;
                    }
                    due("turned behind " + kind, house.year(seed, 4, 1, 3), 1 << swapped);
                    due("pots", house.year(seed, 4, 1, 2), 2);
                    due("opened", house.year(seed, 4, 1, 0), 0);
                }
            }
        });
        edge("(each done, if it can be: open it can't be turned or swapped", () -> {
            FanHouse house = Checks.house("stick 0 0 0 0;".repeat(3));
            Checks.work(house, "open 0 1;");
            due("turn", house.year(seedOf(1, new int[] {3}, 3, 1), 4, 1, 3), 0);
            due("shut, turn", house.year(seedOf(1, new int[] {1, 3}, 3, 1), 4, 1, 3) == 0 ? 0 : 1, 1);
            due("open", house.year(seedOf(1, new int[] {0}, 3, 1), 4, 1, 0), 0);
            due("oil, open as it is", house.year(seedOf(1, new int[] {5}, 3, 1), 4, 1, 1), 0);
        });
    }

    private static void draw() {
        edge("DRAW: the SEED (32 bits) becomes itself times 1,103,515,245, and 12,345 (it wraps)", () -> {
            int[] seeds = {0, 1, -1, Integer.MAX_VALUE, Integer.MIN_VALUE, 1 << 30, -(1 << 30), 12345, -12345};
            for (int seed : seeds) {
                FanHouse house = Checks.house("stick 0 0 0 0;".repeat(7) + "rivet 200;");
                for (int seasons = 1; seasons <= 48; seasons += 7) {
                    due("over by " + seed, house.year(seed, 16, seasons, 3), overBy(seed, seasons));
                }
            }
        });
        edge("its bits 16 to 30, what is left of them", () -> {
            FanHouse house = Checks.house("stick 0 0 0 0;".repeat(7));
            int seed = 0;
            for (int i = 0; i < 20; i++) {
                seed = seedOf(1, new int[] {3}, 7, seed + 1);
                due("over", house.year(seed, 4, 1, 3), 1 << firstSeason(seed, 4, 7).get(0)[1]);
            }
        });
    }
}
