/** The edges of what lies where and of the STEPS (the part "==== 2."), each sentence by itself. */
public final class StepEdgeTest {
    private static final String THREE = "stick 1 2 3 4;stick 1 1 5 5;stick 2 1 4 3;rivet 20;paint 3;";
    private static final String SEVEN = "stick 0 1 2 3;stick 1 2 3 4;stick 2 3 4 5;stick 3 4 5 6;stick 4 5 6 7;"
            + "stick 5 6 7 8;stick 6 7 8 9;";
    private static final int NONE = FanHouse.NONE;

    private StepEdgeTest() {
    }

    public static void main(String[] args) {
        lying();
        views();
        refusals();
        twoHundred();
        open();
        shutting();
        swap();
        turn();
        paint();
        oil();
        season();
        Checks.end("StepEdgeTest");
    }

    private static void edge(String words, Checks.Edge test) {
        Checks.edge(words, test);
    }

    private static void due(String what, long got, long want) {
        Checks.due(what, got, want);
    }

    /** Does a WORK: so many STEPS are done, so many REFUSED. */
    private static void works(FanHouse house, String text, int done, int refused) {
        due("'" + text + "'", Checks.work(house, text), done);
        due("REFUSED by '" + text + "'", house.told(10), refused);
    }

    private static void row(FanHouse house, int view, int... want) {
        for (int k = 0; k < want.length; k++) {
            due("mark(" + view + ", " + k + ")", house.mark(view, k), want[k]);
        }
        due("mark(" + view + ", " + want.length + ")", house.mark(view, want.length), NONE);
    }

    /** All that can be told of it, but for the STEPS REFUSED and the calls refused. */
    private static int[] all(FanHouse house) {
        int[] all = new int[13 + 7 * house.told(0)];
        for (int what = 0; what < 13; what++) {
            all[what] = what == 10 ? 0 : house.told(what);
        }
        for (int i = 13; i < all.length; i++) {
            all[i] = house.stick((i - 13) / 7, (i - 13) % 7);
        }
        return all;
    }

    private static void refuses(FanHouse house, String step) {
        int[] before = all(house);
        works(house, step, 0, 1);
        int[] behind = all(house);
        for (int i = 0; i < before.length; i++) {
            due("behind '" + step + "' number " + i, behind[i], before[i]);
        }
    }

    private static void lying() {
        edge("At first STICK k lies at PLACE k, none is turned over, the fan is shut, worn by 0, it is SEASON 0", () -> {
            FanHouse house = Checks.house(THREE);
            Checks.work(house, "turn 0;turn 2;swap 0 2;season;open 1 3;");
            house.ahead(0, 0);
            house.year(1, 16, 9, 0);
            Checks.fan(house, SEVEN);
            for (int k = 0; k < 7; k++) {
                due("at(" + k + ")", house.at(k), k);
                due("PLACE of " + k, house.stick(k, 0), k);
                due("turned over " + k, house.stick(k, 1), 0);
            }
            due("worn", house.told(2), 0);
            due("SEASON", house.told(4), 0);
            due("opened", house.told(5), 0);
            due("turned over", house.told(6), 0);
            due("shut", house.told(7), NONE);
            due("opened to", house.told(8), 0);
        });
        edge("Of a STICK that is turned over half h is what is told as its half 3 less h", () -> {
            FanHouse house = Checks.house("stick 5 6 7 8;stick 9 10 11 12;");
            Checks.work(house, "turn 0;");
            for (int half = 0; half < 4; half++) {
                due("half " + half + " of STICK 0", house.stick(0, 2 + half), 8 - half);
                due("half " + half + " of STICK 1", house.stick(1, 2 + half), 9 + half);
            }
        });
    }

    private static void views() {
        edge("VIEW 0: the halves 0 of the STICKS at the PLACES, from the first one on; 1: the halves 1 likewise", () -> {
            FanHouse house = Checks.house(THREE);
            row(house, 0, 1, 1, 2);
            row(house, 1, 2, 1, 1);
            Checks.work(house, "swap 0 2;turn 0;");
            row(house, 0, 3, 1, 1);
            row(house, 1, 4, 1, 2);
            row(Checks.house("stick 7 8 9 10;"), 0, 7);
            row(new FanHouse(), 1);
        });
        edge("2: the halves 2, from the last PLACE on back; 3: the halves 3 likewise", () -> {
            FanHouse house = Checks.house(THREE);
            row(house, 2, 4, 5, 3);
            row(house, 3, 3, 5, 4);
            Checks.work(house, "swap 0 2;turn 0;");
            row(house, 2, 3, 5, 1);
            row(house, 3, 4, 5, 2);
            row(Checks.house("stick 7 8 9 10;"), 3, 10);
            row(new FanHouse(), 2);
            row(Checks.house(SEVEN), 2, 8, 7, 6, 5, 4, 3, 2);
        });
        edge("WIDE OPEN it shows all of these, opened to N the first N", () -> {
            FanHouse house = Checks.house(THREE);
            int[][] first = {{1, 1, 2}, {2, 1, 1}, {4, 5, 3}, {3, 5, 4}};
            for (int view = 0; view < 4; view++) {
                for (int n = 1; n <= 3; n++) {
                    Checks.work(house, "shut;oil;oil;oil;oil;open " + view + " " + n + ";");
                    for (int k = 0; k < 4; k++) {
                        due("VIEW " + view + " to " + n + " at " + k, house.seen(k), k < n ? first[view][k] : NONE);
                    }
                    house.undo();
                }
            }
        });
    }

    private static void refusals() {
        edge("one that can't be done is REFUSED, and changes nothing", () -> {
            FanHouse house = Checks.house(THREE);
            String[] shut = {"open 0 4;", "open 3 7;", "shut;", "swap 1 1;", "oil;", "paint 0 0 1;", "paint 2 3 3;"};
            for (String step : shut) {
                refuses(house, step);
            }
            while (house.undo() > 0) {
                due("undone", house.told(10), 0);
            }
            Checks.work(house, "turn 1;open 2 2;paint 0 0 15;paint 0 1 15;paint 0 2 15;");
            String[] open = {"open 0 1;", "swap 0 1;", "turn 0;", "paint 0 3 15;", "paint 0 0 15;"};
            for (String step : open) {
                refuses(house, step);
            }
        });
        edge("STEPS are done in order", () -> {
            FanHouse house = Checks.house(THREE);
            works(house, "oil;swap 1 1;turn 0;shut;swap 0 1;open 0 1;turn 1;shut;turn 1;", 5, 4);
            due("turned over and back", house.told(6), 0);
            due("PLACE", house.at(1), 0);
        });
    }

    private static void twoHundred() {
        edge("200 STEPS at most are begun by one WORK", () -> {
            FanHouse house = Checks.house(THREE);
            works(house, "again 40[turn 0;turn 0;turn 0;turn 0;];again 37[turn 0;];turn 1;", 198, 0);
            due("the 200th is done", house.told(6), 3);
            house.undo();
            works(house, "again 40[turn 0;turn 0;turn 0;turn 0;];again 38[turn 0;];turn 1;", 198, 0);
            due("the 201st is not", house.told(6), 0);
        });
        edge("(an again, too, each time it is come to", () -> {
            FanHouse house = Checks.house(THREE);
            String four = "again 0[];again 0[];again 0[];again 0[];";
            works(house, "again 40[" + four + "];again 37[again 0[];];turn 1;", 1, 0);
            works(house, "again 40[" + four + "];again 38[again 0[];];turn 1;", 0, 0);
            // 1 again, 39 rounds of 5, then an again and 3 turns
            works(house, "again 40[again 4[turn 0;];];", 39 * 4 + 3, 0);
        });
        edge("200 STEPS at most: an again as the 200th begins nothing in it", () -> {
            FanHouse house = Checks.house(THREE);
            works(house, "again 40[turn 0;turn 0;turn 0;turn 0;];again 36[turn 0;];again 1[turn 1;];", 197, 0);
            due("the 200th in it", house.told(6), 2);
            house.undo();
            works(house, "again 40[turn 0;turn 0;turn 0;turn 0;];again 37[turn 0;];again 1[turn 1;];", 197, 0);
            due("left out", house.told(6), 1);
        });
        edge("REFUSED ones, too)", () -> {
            FanHouse house = Checks.house(THREE);
            works(house, "again 40[oil;oil;oil;oil;];again 37[oil;];turn 1;", 1, 197);
            works(house, "again 40[oil;oil;oil;oil;];again 38[oil;];turn 1;", 0, 198);
        });
        edge("what would come behind is left out", () -> {
            FanHouse house = Checks.house(THREE);
            // 1 again, 4 rounds of 42, then an again and 30 SEASONS
            works(house, "again 40[again 40[season;];oil;];turn 2;", 190, 4);
            due("SEASON", house.told(4), 190);
            due("not turned", house.told(6), 0);
            works(house, "turn 2;", 1, 0);
        });
    }

    private static void open() {
        edge("open: it is worn by STRAIN more, and shows VIEW V, opened to N", () -> {
            FanHouse house = Checks.house(THREE);
            Checks.law(house, "view*3+wide");
            works(house, "open 3 2;", 1, 0);
            due("worn", house.told(2), 11);
            due("VIEW", house.told(7), 3);
            due("opened to", house.told(8), 2);
            due("how often", house.told(5), 1);
        });
        edge("open (REFUSED, if it is open", () -> {
            FanHouse house = Checks.house(THREE);
            works(house, "open 0 1;open 0 1;open 1 3;", 1, 2);
            due("VIEW", house.told(7), 0);
            due("worn", house.told(2), 1);
            due("how often", house.told(5), 1);
        });
        edge("open (REFUSED, if there are not N STICKS", () -> {
            FanHouse house = Checks.house(THREE);
            works(house, "open 0 4;open 0 7;", 0, 2);
            works(house, "open 0 3;", 1, 0);
            works(new FanHouse(), "open 0 1;", 0, 1);
            works(Checks.house(SEVEN), "open 0 7;", 1, 0);
            works(Checks.house(SEVEN.substring(14)), "open 0 7;", 0, 1);
        });
        edge("open (REFUSED, if it would be worn by more than N of rivet)", () -> {
            works(Checks.house("stick 1 2 3 4;stick 1 2 3 4;rivet 1;"), "open 0 1;", 1, 0);
            works(Checks.house("stick 1 2 3 4;stick 1 2 3 4;rivet 1;"), "open 0 2;", 0, 1);
            FanHouse house = Checks.house("stick 1 2 3 4;rivet 20;");
            Checks.law(house, "10");
            works(house, "open 0 1;shut;open 0 1;", 3, 0);
            due("by all of it", house.told(2), 20);
            Checks.law(house, "0");
            works(house, "shut;open 0 1;", 2, 0);
            Checks.law(house, "1");
            works(house, "shut;open 0 1;", 1, 1);
            FanHouse most = Checks.house("stick 1 2 3 4;rivet 200;");
            Checks.law(most, "50");
            works(most, "again 5[open 0 1;shut;];", 8, 2);
            due("by 200", most.told(2), 200);
        });
    }

    private static void shutting() {
        edge("shut: it is shut (REFUSED, if it is)", () -> {
            FanHouse house = Checks.house(THREE);
            works(house, "shut;", 0, 1);
            works(house, "open 0 1;shut;shut;", 2, 1);
            due("VIEW", house.told(7), NONE);
            due("opened to", house.told(8), 0);
            due("worn all the same", house.told(2), 1);
            works(house, "open 0 1;", 1, 0);
            works(new FanHouse(), "shut;", 0, 1);
        });
    }

    private static void swap() {
        edge("swap: the STICKS at the two PLACES change places", () -> {
            FanHouse house = Checks.house(SEVEN);
            works(house, "swap 0 6;swap 5 1;", 2, 0);
            int[] want = {6, 5, 2, 3, 4, 1, 0};
            for (int place = 0; place < 7; place++) {
                due("at(" + place + ")", house.at(place), want[place]);
                due("PLACE of STICK " + want[place], house.stick(want[place], 0), place);
            }
        });
        edge("swap (REFUSED, if it is open, or both are one)", () -> {
            FanHouse house = Checks.house(THREE);
            works(house, "swap 0 0;swap 2 2;", 0, 2);
            works(house, "open 0 1;swap 0 1;", 1, 1);
            due("as it was", house.at(0), 0);
            works(house, "shut;swap 0 1;", 2, 0);
            due("swapped", house.at(0), 1);
        });
    }

    private static void turn() {
        edge("turn: the STICK at PLACE P is turned over, or back", () -> {
            FanHouse house = Checks.house(SEVEN);
            works(house, "turn 6;", 1, 0);
            due("over", house.told(6), 64);
            works(house, "turn 6;", 1, 0);
            due("back", house.told(6), 0);
            works(house, "swap 0 6;turn 0;", 2, 0);
            due("the STICK, not the PLACE", house.told(6), 64);
        });
        edge("turn (REFUSED, if it is open)", () -> {
            FanHouse house = Checks.house(THREE);
            works(house, "open 0 1;turn 0;turn 2;", 1, 2);
            due("none", house.told(6), 0);
            works(house, "shut;turn 2;", 2, 0);
            due("over", house.told(6), 4);
        });
    }

    private static void paint() {
        edge("paint: half H of the STICK at PLACE P has MARK M, open or not; there is one pot less", () -> {
            FanHouse house = Checks.house(THREE);
            works(house, "swap 0 2;paint 0 3 15;", 2, 0);
            due("MARK", house.stick(2, 5), 15);
            due("pots", house.told(3), 2);
            works(house, "open 0 1;paint 0 0 0;", 2, 0);
            due("MARK", house.seen(0), 0);
            due("pots", house.told(3), 1);
        });
        edge("as it lies now (so, if it is turned over, what is told as its half 3 less H)", () -> {
            FanHouse house = Checks.house("stick 1 2 3 4;");
            works(house, "turn 0;paint 0 0 9;paint 0 2 8;", 3, 0);
            due("half 0 over", house.stick(0, 2), 9);
            due("half 2 over", house.stick(0, 4), 8);
            works(house, "turn 0;", 1, 0);
            int[] want = {1, 8, 3, 9};
            for (int half = 0; half < 4; half++) {
                due("half " + half, house.stick(0, 2 + half), want[half]);
            }
        });
        edge("paint: the STICK at PLACE P, wherever it is told", () -> {
            FanHouse house = Checks.house("stick 1 2 3 4;stick 5 6 7 8;stick 9 10 11 12;");
            works(house, "swap 0 2;swap 1 2;turn 1;", 3, 0);
            // STICK 2, then 0 turned over, then 1
            works(house, "paint 0 0 9;paint 1 0 4;paint 2 0 5;", 0, 3);
            works(house, "paint 0 0 1;paint 1 0 5;paint 2 0 9;", 3, 0);
            int[] want = {1, 2, 3, 5, 9, 6, 7, 8, 1, 10, 11, 12};
            works(house, "turn 1;", 1, 0);
            for (int i = 0; i < want.length; i++) {
                due("half " + i % 4 + " of STICK " + i / 4, house.stick(i / 4, 2 + i % 4), want[i]);
            }
        });
        edge("paint (REFUSED, if there is none", () -> {
            works(Checks.house("stick 1 2 3 4;paint 0;"), "paint 0 0 9;", 0, 1);
            FanHouse house = Checks.house("stick 1 2 3 4;paint 1;");
            works(house, "paint 0 0 9;paint 0 1 9;", 1, 1);
            due("pots", house.told(3), 0);
            due("MARK", house.stick(0, 3), 2);
            works(house, "season;paint 0 1 9;", 2, 0);
        });
        edge("paint (REFUSED, if it has that MARK)", () -> {
            FanHouse house = Checks.house("stick 1 2 3 4;paint 9;");
            works(house, "paint 0 0 1;paint 0 1 2;paint 0 2 3;paint 0 3 4;", 0, 4);
            due("pots", house.told(3), 9);
            works(house, "turn 0;paint 0 0 4;paint 0 3 1;", 1, 2);
            works(house, "paint 0 0 1;paint 0 0 1;", 1, 1);
            due("pots", house.told(3), 8);
        });
    }

    private static void oil() {
        edge("oil: it is worn by half of what it was (cut) (REFUSED, if it is worn by 0)", () -> {
            FanHouse house = Checks.house("stick 1 2 3 4;rivet 200;");
            Checks.law(house, "15");
            works(house, "oil;", 0, 1);
            works(house, "open 0 1;oil;", 2, 0);
            due("7 of 15, open", house.told(2), 7);
            works(house, "shut;oil;", 2, 0);
            due("3 of 7", house.told(2), 3);
            works(house, "oil;", 1, 0);
            due("1 of 3", house.told(2), 1);
            works(house, "oil;", 1, 0);
            due("0 of 1", house.told(2), 0);
            works(house, "oil;", 0, 1);
        });
    }

    private static void worn(int strain, int want) {
        FanHouse house = Checks.house("stick 1 2 3 4;rivet 200;");
        Checks.law(house, "" + strain);
        works(house, "open 0 1;season;", 2, 0);
        due("worn by " + strain + ", then", house.told(2), want);
        due("still open", house.told(7), 0);
    }

    private static void pots(int now, int want) {
        FanHouse house = Checks.house("paint " + now + ";");
        works(house, "season;", 1, 0);
        due("pots of " + now, house.told(3), want);
    }

    private static void season() {
        edge("season: it is worn by 3 less, 0 at least", () -> {
            worn(60, 57);
            worn(4, 1);
            worn(3, 0);
            worn(2, 0);
            worn(1, 0);
            worn(0, 0);
        });
        edge("there are 2 pots more, 99 at most", () -> {
            pots(0, 2);
            pots(96, 98);
            pots(97, 99);
            pots(98, 99);
            pots(99, 99);
        });
        edge("season (REFUSED from SEASON 400 on)", () -> {
            FanHouse house = Checks.house(THREE);
            works(house, "again 40[season;season;season;season;];", 160, 0);
            works(house, "again 40[season;season;season;season;];", 160, 0);
            works(house, "again 40[season;];again 39[season;];", 79, 0);
            due("SEASON", house.told(4), 399);
            works(house, "open 0 3;paint 0 0 9;paint 0 1 9;paint 0 2 9;paint 0 3 9;", 5, 0);
            works(house, "season;", 1, 0);
            due("SEASON", house.told(4), 400);
            due("pots", house.told(3), 97);
            works(house, "shut;open 0 3;", 2, 0);
            works(house, "season;season;", 0, 2);
            due("SEASON", house.told(4), 400);
            due("pots", house.told(3), 97);
            due("worn", house.told(2), 3);
        });
    }
}
