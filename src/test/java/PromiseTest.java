/** Each promise of the document by hand: ordinary inputs, the edges that it names, wrong inputs. */
public final class PromiseTest {
    private static final String THREE = "stick 1 2 3 4;stick 1 1 5 5;stick 2 1 4 3;rivet 20;paint 3;";
    private static final String SEVEN_ALIKE = "stick 9 9 9 9;".repeat(7);
    private static final int NONE = FanHouse.NONE;

    private PromiseTest() {
    }

    public static void main(String[] args) {
        newObject();
        feed();
        fan();
        fanFaults();
        law();
        lawFaults();
        work();
        workSteps();
        workFaults();
        workLimits();
        picture();
        book();
        fault();
        undo();
        told();
        stick();
        at();
        strain();
        would();
        mark();
        seen();
        marks();
        shows();
        lays();
        laid();
        both();
        brush();
        near();
        lot();
        off();
        run();
        even();
        fits();
        look();
        ahead();
        lasts();
        sellers();
        year();
        span();
        image();
        restore();
        status();
        count();
        Checks.end("PromiseTest");
    }

    private static void due(String what, long got, long want) {
        Checks.due(what, got, want);
    }

    /** Reads a text by itself and looks at the answer and at the place of the FAULT. */
    private interface Reading {
        int read(FanHouse house, String text);
    }

    private static void faulty(FanHouse house, Reading by, String text, int kind, int place) {
        due("'" + text + "'", by.read(house, text), kind - 10);
        due("fault() behind '" + text + "'", house.fault(), place);
        due("the TAPE behind '" + text + "'", house.count(1), 0);
    }

    private static void newObject() {
        FanHouse house = new FanHouse();
        int[] want = {0, 99, 0, 20, 0, 0, 0, NONE, 0, 0, 0, 0, 0};
        for (int what = 0; what < want.length; what++) {
            due("1: told(" + what + ")", house.told(what), want[what]);
        }
        due("1: fault()", house.fault(), NONE);
        due("1: IMAGES", house.count(0), 0);
        due("1: TAPE", house.count(1), 0);
        due("1: WORKS", house.count(2), 0);
        due("1: strain by no LAW", house.strain(2, 5), 5);
        due("1: NONE", FanHouse.NONE, -1);
    }

    private static void feed() {
        FanHouse house = new FanHouse();
        due("2: feed", house.feed(0x70616963, 0x6e742039, 0x3b000000, 0, 0), 20);
        due("2: 'paicnt'", house.fan(9), -9);
        due("2: highest first", house.feed(0x7061696e, 0x7420393b, 0, -1, Integer.MIN_VALUE), 20);
        due("2: 'paint 9;'", house.fan(8), 0);
        due("2: pots", house.told(3), 9);
        for (int i = 1; i <= 30; i++) {
            due("2: feed", house.feed(i, i, i, i, i), 20 * i);
        }
        due("2: too many", house.feed(1, 2, 3, 4, 5), NONE);
        due("2: too many does nothing", house.count(1), 600);
        due("2: bytes above 127", house.fan(0), 0);
        house.feed(0xffffffff, 0, 0, 0, 0);
        due("2: byte 255", house.fan(1), -9);
        due("2: then room again", house.feed(0, 0, 0, 0, 0), 20);
    }

    private static void fan() {
        FanHouse house = new FanHouse();
        due("3: fan", Checks.fan(house, THREE), 3);
        due("3: TAPE is empty", house.count(1), 0);
        due("3: last rivet counts", Checks.fan(house, "rivet 5;rivet 200;paint 0;paint 99;"), 0);
        due("3: rivet", house.told(1), 200);
        due("3: pots", house.told(3), 99);
        due("3: blanks, zeros, none", Checks.fan(house, "  stick  01 2 3 0004 ;rivet1 ; stick9 9 9 9;  "), 2);
        due("3: mark", house.mark(3, 1), 4);
        due("3: rivet", house.told(1), 1);
        due("3: 7 sticks", Checks.fan(house, SEVEN_ALIKE), 7);
        due("3: 60 clauses", Checks.fan(house, "rivet 1;".repeat(60)), 0);
        due("3: blanks alone", Checks.fan(house, "   "), 0);
        due("3: without rivet", house.told(1), 99);
        due("3: without paint", house.told(3), 20);

        Checks.feed(house, THREE);
        Checks.illegal("3: fan(-1)", () -> house.fan(-1));
        Checks.illegal("3: fan(61)", () -> house.fan(61));
        due("3: the TAPE stays", house.count(1), 60);
        due("3: only the first 14", house.fan(14), 1);
        due("3: all of it is gone", house.count(1), 0);
        fanForgets();
    }

    private static void fanForgets() {
        FanHouse house = Checks.house(THREE);
        Checks.law(house, "7");
        Checks.picture(house, "1;");
        Checks.other(house, "2;2;");
        Checks.book(house, "0 0 1;");
        Checks.work(house, "turn 0;open 0 2;open 0 2;season;");
        house.image();
        due("3: a FAULT", Checks.fan(house, "paint 5;x"), -9);
        int[] kept = {3, 20, 4, 5, 1, 1, 1, 0, 2, 1, 1, 1, 2};
        for (int what = 0; what < kept.length; what++) {
            due("3: behind a FAULT told(" + what + ")", house.told(what), kept[what]);
        }
        due("3: behind a FAULT images", house.count(0), 1);
        due("3: behind a FAULT works", house.count(2), 1);
        due("3: behind a FAULT the LAW", house.strain(0, 3), 7);
        due("3: fan", Checks.fan(house, "stick 1 2 3 4;paint 5;"), 1);
        int[] fresh = {1, 99, 0, 5, 0, 0, 0, NONE, 0, 0, 0, 0, 0};
        for (int what = 0; what < fresh.length; what++) {
            due("3: behind fan told(" + what + ")", house.told(what), fresh[what]);
        }
        due("3: no IMAGES", house.count(0), 0);
        due("3: nothing to undo", house.count(2), 0);
        due("3: no LAW", house.strain(0, 3), 3);
    }

    private static void fanFaults() {
        FanHouse house = new FanHouse();
        Reading fan = Checks::fan;
        faulty(house, fan, "sticks 1 2 3 4;", 1, 0);
        faulty(house, fan, " stic 1 2 3 4;", 1, 1);
        faulty(house, fan, "Stick 1 2 3 4;", 1, 0);
        faulty(house, fan, "stick 1 2 3;", 1, 11);
        faulty(house, fan, "stick 1 2 3 4", 1, 13);
        faulty(house, fan, "stick 1 2 3 4  ", 1, 15);
        faulty(house, fan, "stick 1 2 3 16;", 2, 12);
        faulty(house, fan, "stick 1 2 3 99999999999999;", 2, 12);
        faulty(house, fan, "stick 1 2 3 4 5;", 1, 14);
        faulty(house, fan, "rivet 0;", 2, 6);
        faulty(house, fan, "rivet 201;", 2, 6);
        faulty(house, fan, "rivet 4294967297;", 2, 6);
        faulty(house, fan, "paint 100;", 2, 6);
        faulty(house, fan, "paint -1;", 1, 6);
        faulty(house, fan, "paint 1;;", 1, 8);
        faulty(house, fan, SEVEN_ALIKE + " stick 9 9 9 99;", 3, 99);
        faulty(house, fan, SEVEN_ALIKE + "stack 9 9 9 9;", 1, 98);
        faulty(house, fan, "paint 1;".repeat(60) + "rivet 0;", 3, 480);
        faulty(house, fan, "paint 1;".repeat(60) + "stick", 3, 480);
        faulty(house, fan, "paint 1;".repeat(60) + "river 0;", 1, 480);
        faulty(house, fan, "paint\t1;", 1, 5);
    }

    private static void law() {
        FanHouse house = Checks.house(THREE);
        due("4: law", Checks.law(house, "wide * 2 + view"), 1);
        due("4: strain", house.strain(3, 4), 11);
        due("4: the last counts", Checks.law(house, " 7 "), 1);
        due("4: strain", house.strain(3, 4), 7);
        strains(house, "10-3-2", 5);
        strains(house, "2+3*4", 14);
        strains(house, "(2+3)*4", 20);
        strains(house, "17%5*2", 4);
        strains(house, "0-7/2+10", 7);
        strains(house, "0-7%4+10", 7);
        strains(house, "(0-7)/2+10", 7);
        strains(house, "(0-7)%4+10", 7);
        strains(house, "5/0+1", 1);
        strains(house, "5%0+2", 2);
        strains(house, "least[3,9]+most [ 4 , 1 ]", 7);
        strains(house, "999", 60);
        strains(house, "0-1", 0);
        strains(house, "999*999*999*999*0+999*999*999*3", 0);
        strains(house, "999*999*999*5", 60);
        strains(house, "((((((1))))))", 1);
        strains(house, "(((((1)))))+((((((2))))))+most[least[(((( 1)))),2],1]", 4);
        // 2 by 31 wraps to the least number; that by -1 is itself, and nothing is left
        strains(house, "(64*32*32*32*32*32)/(0-1)+5", 0);
        strains(house, "(64*32*32*32*32*32)%(0-1)+5", 5);
        Checks.feed(house, "1".repeat(160));
        Checks.illegal("4: law(151)", () -> house.law(151));
        Checks.illegal("4: law(-1)", () -> house.law(-1));
        due("4: the TAPE stays", house.count(1), 160);
        due("4: 3 bytes of it", house.law(2), 1);
        due("4: TAPE is empty", house.count(1), 0);
        Checks.illegal("4: law(1)", () -> house.law(1));
        due("4: 150 bytes", Checks.law(house, "1+".repeat(74) + " 1"), 1);
        due("4: strain", house.strain(0, 1), 60);
    }

    private static void strains(FanHouse house, String law, int want) {
        due("4: '" + law + "'", Checks.law(house, law), 1);
        due("4: STRAIN by '" + law + "'", house.would(0, 1, 0, 0, 0, 0, 0), want);
    }

    private static void lawFaults() {
        FanHouse house = Checks.house(THREE);
        Checks.law(house, "5");
        Reading law = Checks::law;
        faulty(house, law, "", 1, 0);
        faulty(house, law, "  ", 1, 2);
        faulty(house, law, "wide wide", 1, 5);
        faulty(house, law, "wides", 1, 0);
        faulty(house, law, "1000", 2, 0);
        faulty(house, law, "pots+", 1, 5);
        faulty(house, law, "-1", 1, 0);
        faulty(house, law, "(1", 1, 2);
        faulty(house, law, "1)", 1, 1);
        faulty(house, law, "(1]", 1, 2);
        faulty(house, law, "least(1,2)", 1, 5);
        faulty(house, law, "least[1;2]", 1, 7);
        faulty(house, law, "least[1,2,3]", 1, 9);
        faulty(house, law, "((((((1+(1))))))", 3, 8);
        faulty(house, law, "(((((( least[1,2]))))))", 3, 7);
        faulty(house, law, "((((((lest", 1, 6);
        faulty(house, law, "most[most[most[most[most[most[most[", 3, 30);
        faulty(house, law, "1;", 1, 1);
        due("4: the LAW stays", house.strain(0, 1), 5);
    }

    private static void work() {
        FanHouse house = Checks.house(THREE);
        due("5: none", Checks.work(house, ""), 0);
        due("5: STEPS that were done", Checks.work(house, "turn 0; turn 1 ;shut;oil;again 2[turn 2;swap 0 0;];"), 4);
        due("5: STEPS REFUSED", house.told(10), 4);
        due("5: turned over", house.told(6), 3);
        due("5: WORKS", house.count(2), 2);
        Checks.feed(house, " ".repeat(160));
        Checks.illegal("5: work(151)", () -> house.work(151));
        Checks.illegal("5: work(-1)", () -> house.work(-1));
        due("5: the TAPE stays", house.count(1), 160);
        due("5: 150 bytes", house.work(150), 0);
        due("5: TAPE is empty", house.count(1), 0);
        Checks.illegal("5: work(1)", () -> house.work(1));
    }

    private static void workSteps() {
        FanHouse house = Checks.house("stick 1 2 3 4;stick 5 6 7 8;rivet 9;paint 1;");
        due("5: open to more than there are", Checks.work(house, "open 0 3;"), 0);
        due("5: open, open again", Checks.work(house, "open 3 2;open 0 1;swap 0 1;turn 1;"), 1);
        due("5: worn", house.told(2), 2);
        due("5: VIEW", house.told(7), 3);
        due("5: paint open, then no pot", Checks.work(house, "paint 0 0 1;paint 0 0 9;paint 0 1 9;"), 1);
        due("5: half 0", house.stick(0, 2), 9);
        due("5: half 1", house.stick(0, 3), 2);
        due("5: season gives 2 pots", Checks.work(house, "season;"), 1);
        due("5: 3 less, 0 at least", house.told(2), 0);
        due("5: pots", house.told(3), 2);
        due("5: paint as it lies", Checks.work(house, "shut;turn 1;paint 1 0 15;swap 1 0;"), 4);
        due("5: told as half 3", house.stick(1, 2), 15);
        due("5: no other half", house.stick(1, 5), 5);
        due("5: PLACE", house.stick(1, 0), 0);
        due("5: turned back", Checks.work(house, "turn 0;"), 1);
        due("5: told as half 3", house.stick(1, 5), 15);
        due("5: half 0", house.stick(1, 2), 5);

        Checks.fan(house, "stick 1 2 3 4;rivet 9;paint 98;");
        Checks.law(house, "5 - opened");
        due("5: by no more than rivet", Checks.work(house, "open 0 1;shut;open 0 1;shut;open 0 1;"), 4);
        due("5: worn by 9", house.told(2), 9);
        due("5: oil cuts", Checks.work(house, "oil;"), 1);
        due("5: worn by 4", house.told(2), 4);
        due("5: pots to 99", Checks.work(house, "season;oil;oil;"), 2);
        due("5: worn by 0", house.told(2), 0);
        due("5: pots", house.told(3), 99);
        due("5: SEASON", house.told(4), 1);
        due("5: 199 SEASONS", Checks.work(house, "again 40[season;season;season;season;season;season;];"), 199);
        due("5: to 399", Checks.work(house, "again 40[season;season;season;season;season;season;];"), 199);
        due("5: to 400", Checks.work(house, "season;season;"), 1);
        due("5: SEASON", house.told(4), 400);
        due("5: REFUSED", house.told(10), 1);
    }

    private static void workFaults() {
        FanHouse house = Checks.house(THREE);
        Checks.work(house, "shut;");
        Reading work = Checks::work;
        faulty(house, work, "turn 0;turn 3;", 2, 12);
        faulty(house, work, "swap 3 0;", 2, 5);
        faulty(house, work, "swap 0;", 1, 6);
        faulty(house, work, "open 0 0;", 2, 7);
        faulty(house, work, "open 0 8;", 2, 7);
        faulty(house, work, "open 4 8;", 2, 5);
        faulty(house, work, "paint 0 0 16;", 2, 10);
        faulty(house, work, "paint 0 4 16;", 2, 8);
        faulty(house, work, "again 41 [ ];", 2, 6);
        faulty(house, work, "again 4 [ ]", 1, 11);
        faulty(house, work, "again 4 [ ];]", 1, 12);
        faulty(house, work, "again 4 [ turn 0 ];", 1, 17);
        faulty(house, work, "again 4 [ turn 0;;", 1, 17);
        faulty(house, work, "again 4 [ turn 0;", 1, 17);
        faulty(house, work, "seasons;", 1, 0);
        faulty(house, work, "shut oil;", 1, 5);
        faulty(house, work, "again 0[".repeat(6) + " again 99[", 3, 49);
        faulty(house, work, "again 0[".repeat(6) + "agains 1[", 1, 48);
        due("5: no STEP is done", house.told(6), 0);
        due("5: no WORK more", house.count(2), 1);
        due("5: REFUSED stays", house.told(10), 1);
        due("5: six agains", Checks.work(house, "again 1[".repeat(6) + "turn 0;" + "];".repeat(6)), 1);
        due("5: six agains and then six", Checks.work(house,
                "again 1[".repeat(6) + "];".repeat(6) + "again 1[".repeat(6) + "];".repeat(6)), 0);
        faulty(new FanHouse(), work, "turn 0;", 2, 5);
    }

    private static void workLimits() {
        FanHouse house = Checks.house(THREE);
        // 1 again, then 66 rounds of an again with two turns: 1 and 3 times 66 is 199, one more again begins
        due("5: 200 STEPS begun", Checks.work(house, "again 40[again 2[turn 0;];again 2[turn 0;];];"), 132);
        due("5: none REFUSED", house.told(10), 0);
        due("5: what is behind is left out", Checks.work(house,
                "again 40[oil;oil;oil;];again 40[shut;shut;];turn 1;"), 0);
        due("5: REFUSED ones count", house.told(10), 198);
        due("5: not turned", house.told(6), 0);
        due("5: empty agains", Checks.work(house, "again 40[again 40[again 40[];];];turn 1;"), 0);
        due("5: again 0", Checks.work(house, "again 0[turn 1;];turn 2;"), 1);
        for (int i = house.count(2); i < 16; i++) {
            due("5: empty WORK", Checks.work(house, ""), 0);
        }
        due("5: 16 WORKS", house.count(2), 16);
        Checks.work(house, "x");
        due("5: there is no FAULT", house.fault(), NONE);
        Checks.fan(house, "x");
        due("5: a FAULT", house.fault(), 0);
        due("5: 17th WORK", Checks.work(house, "turn 0;"), -20);
        due("5: there is no FAULT", house.fault(), NONE);
        due("5: the TAPE is empty", house.count(1), 0);
        Checks.feed(house, "turn 0;");
        Checks.illegal("5: behind the exception", () -> house.work(21));
        due("5: the TAPE stays", house.count(1), 20);
        due("5: nothing was done", house.told(6), 4);
        house.undo();
        due("5: room again", house.work(7), 1);
    }

    private static void picture() {
        FanHouse house = Checks.house(THREE);
        due("6: PICTURE", Checks.picture(house, "1;16; 02 ;"), 3);
        due("6: OTHER", Checks.other(house, "0;15;"), 2);
        due("6: told", house.told(11), 3);
        due("6: told", house.told(12), 2);
        due("6: seven", Checks.other(house, "0;0;0;0;0;0;0;"), 7);
        due("6: told", house.told(11), 3);
        Checks.feed(house, "1;".repeat(40));
        Checks.illegal("6: picture(61, 0)", () -> house.picture(61, 0));
        Checks.illegal("6: picture(-1, 0)", () -> house.picture(-1, 0));
        Checks.illegal("6: picture(2, 2)", () -> house.picture(2, 2));
        Checks.illegal("6: picture(2, -1)", () -> house.picture(2, -1));
        due("6: the TAPE stays", house.count(1), 80);
        due("6: PICTURE", house.picture(4, 0), 2);
        Checks.illegal("6: no bytes", () -> house.picture(1, 0));
        Reading picture = Checks::picture;
        faulty(house, picture, "17;", 2, 0);
        faulty(house, picture, "1;1", 1, 3);
        faulty(house, picture, "1;1,", 1, 3);
        faulty(house, picture, ";", 1, 0);
        faulty(house, picture, "any;", 1, 0);
        faulty(house, picture, "0;0;0;0;0;0;0; 0", 3, 15);
        faulty(house, picture, "0;0;0;0;0;0;0;17", 2, 14);
        faulty(house, picture, "0;0;0;0;0;0;0;x", 1, 14);
        due("6: behind FAULTS", house.told(11), 2);
        due("6: 60 bytes", Checks.picture(house, "1;" + " ".repeat(58)), 1);
        due("6: none", Checks.picture(house, ""), 0);
    }

    private static void book() {
        FanHouse house = Checks.house(THREE);
        due("7: BOOK", Checks.book(house, "0 0 1; 3 6 015;"), 2);
        due("7: told", house.told(9), 2);
        due("7: seven", Checks.book(house, "0 0 1;".repeat(7)), 7);
        Checks.feed(house, "0 0 1;".repeat(12));
        Checks.illegal("7: book(61)", () -> house.book(61));
        Checks.illegal("7: book(-1)", () -> house.book(-1));
        due("7: the TAPE stays", house.count(1), 80);
        due("7: BOOK", house.book(6), 1);
        Checks.illegal("7: no bytes", () -> house.book(1));
        Reading book = Checks::book;
        faulty(house, book, "4 0 0;", 2, 0);
        faulty(house, book, "0 7 0;", 2, 2);
        faulty(house, book, "0 0 16;", 2, 4);
        faulty(house, book, "0 0;", 1, 3);
        faulty(house, book, "0 0 0", 1, 5);
        faulty(house, book, "0 0 0 0;", 1, 6);
        faulty(house, book, "0 0 1;".repeat(7) + "0 9 99", 3, 42);
        faulty(house, book, "0 0 1;".repeat(7) + "4 0 0;", 2, 42);
        faulty(house, book, "0 0 1;".repeat(7) + ";", 1, 42);
        due("7: behind FAULTS", house.told(9), 1);
    }

    private static void fault() {
        FanHouse house = new FanHouse();
        Checks.fan(house, "paint 1; rivet 999;");
        due("8: fault", house.fault(), 15);
        Checks.illegal("8: exception", () -> house.fan(1));
        due("8: stays", house.fault(), 15);
        Checks.picture(house, "1;");
        due("8: none", house.fault(), NONE);
        Checks.law(house, "");
        due("8: at 0", house.fault(), 0);
        house.image();
        house.restore();
        due("8: stays", house.fault(), 0);
    }

    private static void undo() {
        FanHouse house = Checks.house(THREE);
        due("9: none", house.undo(), -1);
        Checks.work(house, "turn 1;paint 0 0 9;season;swap 0 2;");
        Checks.work(house, "open 1 3;oil;");
        Checks.work(house, "swap 0 1;");
        due("9: undo REFUSED ones", house.undo(), 2);
        due("9: STEPS REFUSED", house.told(10), 0);
        due("9: still open", house.told(7), 1);
        due("9: undo", house.undo(), 1);
        due("9: shut", house.told(7), NONE);
        due("9: worn", house.told(2), 0);
        due("9: opened", house.told(5), 0);
        due("9: undo", house.undo(), 0);
        due("9: turned over", house.told(6), 0);
        due("9: MARK", house.stick(0, 2), 1);
        due("9: PLACE", house.at(0), 0);
        due("9: SEASON", house.told(4), 0);
        due("9: pots", house.told(3), 3);
        due("9: none", house.undo(), -1);
    }

    private static void told() {
        FanHouse house = Checks.house(THREE);
        Checks.picture(house, "1;");
        Checks.other(house, "2;2;");
        Checks.book(house, "0 0 1;0 0 1;0 0 1;");
        Checks.work(house, "turn 0;turn 2;open 2 3;shut;season;open 1 2;shut;open 3 1;turn 0;oil;season;");
        int[] want = {3, 20, 0, 7, 2, 3, 5, 3, 1, 3, 1, 1, 2};
        for (int what = 0; what < want.length; what++) {
            due("10: told(" + what + ")", house.told(what), want[what]);
        }
        Checks.illegal("10: told(-1)", () -> house.told(-1));
        Checks.illegal("10: told(13)", () -> house.told(13));
        house.image();
        Checks.work(house, "oil;oil;turn 0;");
        due("10: REFUSED", house.told(10), 3);
        house.restore();
        due("10: behind restore", house.told(10), 0);
    }

    private static void stick() {
        FanHouse house = Checks.house("stick 1 2 3 4;stick 4 3 2 1;stick 1 2 3 4;stick 1 2 3 5;");
        Checks.work(house, "turn 1;swap 1 3;");
        int[] want = {3, 1, 1, 2, 3, 4, 5};
        for (int what = 0; what < want.length; what++) {
            due("11: stick(1, " + what + ")", house.stick(1, what), want[what]);
        }
        due("11: PLACE", house.stick(3, 0), 1);
        due("11: alike", house.stick(0, 6), 6);
        due("11: none alike", house.stick(3, 6), 0);
        due("11: not turned", house.stick(0, 1), 0);
        due("11: one half differs", Checks.house("stick 1 2 3 4;stick 9 2 3 4;").stick(0, 6), 0);
        due("11: one half differs", Checks.house("stick 1 2 3 4;stick 1 2 3 9;").stick(0, 6), 0);
        Checks.missing("11: stick(4, 0)", () -> house.stick(4, 0));
        Checks.missing("11: stick(-1, 9)", () -> house.stick(-1, 9));
        Checks.illegal("11: stick(0, 7)", () -> house.stick(0, 7));
        Checks.illegal("11: stick(0, -1)", () -> house.stick(0, -1));
    }

    private static void at() {
        FanHouse house = Checks.house(THREE);
        Checks.work(house, "swap 0 2;swap 1 2;");
        due("12: at(0)", house.at(0), 2);
        due("12: at(1)", house.at(1), 0);
        due("12: at(2)", house.at(2), 1);
        Checks.missing("12: at(3)", () -> house.at(3));
        Checks.missing("12: at(-1)", () -> house.at(-1));
    }

    private static void strain() {
        FanHouse house = Checks.house(THREE);
        due("13: wide", house.strain(0, 7), 7);
        Checks.law(house, "wide*2+view*10+opened+turned+wear+season");
        due("13: strain", house.strain(3, 2), 34);
        Checks.law(house, "1");
        Checks.work(house, "turn 0;turn 1;open 0 1;shut;open 0 1;season;season;oil;");
        Checks.law(house, "opened*10+turned+pots+season");
        due("13: by now, open", house.strain(0, 1), 31);
        Checks.illegal("13: strain(4, 1)", () -> house.strain(4, 1));
        Checks.illegal("13: strain(-1, 1)", () -> house.strain(-1, 1));
        Checks.illegal("13: strain(0, 0)", () -> house.strain(0, 0));
        Checks.illegal("13: strain(0, 8)", () -> house.strain(0, 8));
    }

    private static void would() {
        FanHouse house = Checks.house(THREE);
        String[] names = {"view", "wide", "wear", "opened", "turned", "pots", "season"};
        int[] want = {3, 7, 60, 60, 5, 58, 59};
        for (int i = 0; i < names.length; i++) {
            Checks.law(house, names[i]);
            due("14: " + names[i], house.would(3, 7, 200, 9999, 5, 58, 59), want[i]);
        }
        Checks.law(house, "wear+opened/999+pots+season/100");
        due("14: all", house.would(0, 1, 7, 9999, 0, 8, 400), 29);
        due("14: nothing stays changed", house.strain(0, 1), 3);
        Checks.illegal("14: view", () -> house.would(4, 1, 0, 0, 0, 0, 0));
        Checks.illegal("14: view", () -> house.would(-1, 1, 0, 0, 0, 0, 0));
        Checks.illegal("14: wide", () -> house.would(0, 0, 0, 0, 0, 0, 0));
        Checks.illegal("14: wide", () -> house.would(0, 8, 0, 0, 0, 0, 0));
        Checks.illegal("14: wear", () -> house.would(0, 1, 201, 0, 0, 0, 0));
        Checks.illegal("14: wear", () -> house.would(0, 1, -1, 0, 0, 0, 0));
        Checks.illegal("14: opened", () -> house.would(0, 1, 0, 10000, 0, 0, 0));
        Checks.illegal("14: opened", () -> house.would(0, 1, 0, -1, 0, 0, 0));
        Checks.illegal("14: turned", () -> house.would(0, 1, 0, 0, 8, 0, 0));
        Checks.illegal("14: turned", () -> house.would(0, 1, 0, 0, -1, 0, 0));
        Checks.illegal("14: pots", () -> house.would(0, 1, 0, 0, 0, 100, 0));
        Checks.illegal("14: pots", () -> house.would(0, 1, 0, 0, 0, -1, 0));
        Checks.illegal("14: season", () -> house.would(0, 1, 0, 0, 0, 0, 401));
        Checks.illegal("14: season", () -> house.would(0, 1, 0, 0, 0, 0, -1));
        due("14: one count a call", house.status(1), 14);
    }

    private static void row(FanHouse house, int view, int... want) {
        for (int k = 0; k < want.length; k++) {
            due("15: mark(" + view + ", " + k + ")", house.mark(view, k), want[k]);
        }
        due("15: behind the end", house.mark(view, want.length), NONE);
    }

    private static void mark() {
        FanHouse house = Checks.house(THREE);
        row(house, 0, 1, 1, 2);
        row(house, 1, 2, 1, 1);
        row(house, 2, 4, 5, 3);
        row(house, 3, 3, 5, 4);
        Checks.work(house, "turn 0;swap 0 1;open 0 1;");
        row(house, 0, 1, 4, 2);
        row(house, 1, 1, 3, 1);
        row(house, 2, 4, 2, 5);
        row(house, 3, 3, 1, 5);
        due("15: far", house.mark(0, Integer.MAX_VALUE), NONE);
        due("15: far", house.mark(2, Integer.MAX_VALUE), NONE);
        Checks.illegal("15: view", () -> house.mark(4, 0));
        Checks.illegal("15: view", () -> house.mark(-1, 0));
        Checks.illegal("15: k", () -> house.mark(0, -1));
        Checks.illegal("15: k", () -> house.mark(2, Integer.MIN_VALUE));
    }

    private static void seen() {
        FanHouse house = Checks.house(THREE);
        due("16: shut", house.seen(0), NONE);
        Checks.work(house, "open 2 2;");
        due("16: seen(0)", house.seen(0), 4);
        due("16: seen(1)", house.seen(1), 5);
        due("16: seen(2)", house.seen(2), NONE);
        Checks.work(house, "paint 2 2 11;");
        due("16: painted", house.seen(0), 11);
        Checks.work(house, "shut;open 1 3;");
        due("16: seen(2)", house.seen(2), 1);
        due("16: far", house.seen(Integer.MAX_VALUE), NONE);
        Checks.illegal("16: seen(-1)", () -> house.seen(-1));
    }

    private static void marks() {
        FanHouse house = Checks.house("stick 0 2 3 4;stick 15 1 5 5;stick 0 1 4 3;");
        due("17: VIEW 0", house.marks(0), 1 | 1 << 15);
        due("17: VIEW 1", house.marks(1), 6);
        due("17: VIEW 2", house.marks(2), 8 | 16 | 32);
        Checks.work(house, "turn 0;open 0 1;");
        due("17: VIEW 0", house.marks(0), 1 | 1 << 15 | 16);
        due("17: no STICKS", new FanHouse().marks(0), 0);
        Checks.illegal("17: view", () -> house.marks(4));
        Checks.illegal("17: view", () -> house.marks(-1));
    }

    private static void shows() {
        FanHouse house = Checks.house(THREE);
        due("18: no MARKS", house.shows(0) ? 1 : 0, 1);
        Checks.picture(house, "4;16;");
        due("18: VIEW 2", house.shows(2) ? 1 : 0, 1);
        due("18: VIEW 3", house.shows(3) ? 1 : 0, 0);
        Checks.work(house, "turn 0;open 1 1;");
        due("18: VIEW 0", house.shows(0) ? 1 : 0, 1);
        Checks.picture(house, "16;16;16;16;");
        due("18: too many MARKS", house.shows(0) ? 1 : 0, 0);
        Checks.illegal("18: view", () -> house.shows(4) ? 1 : 0);
        Checks.illegal("18: view", () -> house.shows(-1) ? 1 : 0);
    }

    private static void lays() {
        FanHouse house = Checks.house(THREE);
        due("19: all", house.lays(3), 48);
        Checks.picture(house, "1;16;2;");
        due("19: VIEW 0", house.lays(0), 4);
        Checks.work(house, "paint 0 0 7;turn 2;swap 0 2;open 0 3;");
        due("19: as painted, wherever they lie", house.lays(0), 2);
        Checks.fan(house, SEVEN_ALIKE);
        due("19: the most", house.lays(0), 645120);
        Checks.picture(house, "9;9;9;9;9;9;9;");
        due("19: the most", house.lays(2), 645120);
        Checks.picture(house, "9;9;8;");
        due("19: none", house.lays(2), 0);
        Checks.fan(house, THREE);
        Checks.picture(house, "16;16;16;16;");
        due("19: too many MARKS", house.lays(0), 0);
        FanHouse empty = new FanHouse();
        due("19: no STICKS", empty.lays(1), 1);
        Checks.picture(empty, "16;");
        due("19: no STICKS, a MARK", empty.lays(1), 0);
        Checks.illegal("19: view", () -> house.lays(4));
        Checks.illegal("19: view", () -> house.lays(-1));
    }

    private static void laid() {
        FanHouse house = Checks.house(THREE);
        due("20: no MARKS", house.laid(0, 2), 4);
        Checks.work(house, "turn 0;swap 0 2;");
        due("20: as told", house.laid(0, 0), 0);
        Checks.picture(house, "4;16;3;");
        // VIEW 2 from the last PLACE on back: 4 at PLACE 2, 3 at PLACE 0
        due("20: VIEW 2", house.laid(2, 0), 0);
        due("20: VIEW 2", house.laid(2, 1), 2);
        due("20: VIEW 2", house.laid(2, 2), 4);
        // VIEW 0: 4 is STICK 0 turned over, 3 is STICK 2 turned over
        due("20: VIEW 0", house.laid(0, 0), 1);
        due("20: VIEW 0", house.laid(0, 1), 2);
        due("20: VIEW 0", house.laid(0, 2), 5);
        Checks.picture(house, "9;");
        due("20: none", house.laid(0, 0), NONE);
        Checks.missing("20: place", () -> house.laid(0, 3));
        Checks.missing("20: place ahead of view", () -> house.laid(4, -1));
        Checks.illegal("20: view", () -> house.laid(4, 0));
        Checks.illegal("20: view", () -> house.laid(-1, 2));
    }

    private static void both() {
        FanHouse house = Checks.house(THREE);
        due("21: all", house.both(0, 3), 48);
        Checks.picture(house, "1;16;2;");
        Checks.other(house, "16;5;");
        due("21: 0, 2", house.both(0, 2), 1);
        due("21: 0, 0", house.both(0, 0), 1);
        Checks.other(house, "4;");
        due("21: 0, 2", house.both(0, 2), 4);
        due("21: 2, 0", house.both(2, 0), 4);
        Checks.other(house, "2;");
        due("21: 2, 0", house.both(2, 0), 0);
        Checks.other(house, "16;16;16;16;");
        due("21: too many MARKS", house.both(0, 2), 0);
        due("21: no STICKS", new FanHouse().both(0, 1), 1);
        Checks.illegal("21: view", () -> house.both(4, 0));
        Checks.illegal("21: view", () -> house.both(-1, 0));
        Checks.illegal("21: other", () -> house.both(0, 4));
        Checks.illegal("21: other", () -> house.both(0, -1));
    }

    private static void brush() {
        FanHouse house = Checks.house("stick 1 2 3 4;stick 1 1 5 5;stick 2 1 4 3;paint 0;");
        due("22: there is one", house.brush(0), 0);
        Checks.picture(house, "9;1;");
        due("22: one half", house.brush(0), 1);
        Checks.picture(house, "9;9;9;");
        due("22: three halves", house.brush(2), 3);
        Checks.picture(house, "5;5;16;");
        due("22: one has it alone", house.brush(0), 1);
        Checks.picture(house, "16;16;16;16;");
        due("22: too many MARKS", house.brush(0), NONE);
        FanHouse empty = new FanHouse();
        due("22: no STICKS", empty.brush(0), 0);
        Checks.picture(empty, "16;");
        due("22: no STICKS, a MARK", empty.brush(0), NONE);
        Checks.illegal("22: view", () -> house.brush(4));
        Checks.illegal("22: view", () -> house.brush(-1));
    }

    private static void near() {
        FanHouse house = Checks.house(THREE);
        Checks.picture(house, "1;16;2;");
        due("23: they do", house.near(0), 0);
        due("23: one swap", house.near(1), 1);
        due("23: three", house.near(3), 3);
        Checks.work(house, "turn 0;swap 0 2;open 0 1;");
        due("23: a swap and a turn", house.near(0), 2);
        Checks.picture(house, "16;16;16;");
        due("23: any", house.near(0), 0);
        Checks.picture(house, "9;");
        due("23: none", house.near(0), NONE);
        Checks.picture(house, "16;16;16;16;");
        due("23: too many MARKS", house.near(0), NONE);
        Checks.fan(house, "stick 0 0 0 1;stick 2 2 2 3;stick 4 4 4 5;stick 6 6 6 7;stick 8 8 8 9;"
                + "stick 10 10 10 11;stick 12 12 12 13;");
        Checks.picture(house, "3;5;7;9;11;13;1;");
        due("23: six swaps, seven turns", house.near(0), 13);
        due("23: no STICKS", new FanHouse().near(0), 0);
        Checks.illegal("23: view", () -> house.near(4));
        Checks.illegal("23: view", () -> house.near(-1));
    }

    private static void lot() {
        FanHouse house = Checks.house(THREE);
        due("24: sure", house.lot(0, 0), 1);
        due("24: sure", house.lot(0, 1), 1);
        Checks.picture(house, "1;16;2;");
        due("24: 1 by 12", house.lot(0, 0), 1);
        due("24: 1 by 12", house.lot(0, 1), 12);
        Checks.picture(house, "1;");
        // STICKS 0 and 1 as told: 2 of 6
        due("24: 1 by 3", house.lot(0, 0), 1);
        due("24: 1 by 3", house.lot(0, 1), 3);
        Checks.picture(house, "9;");
        due("24: can't be", house.lot(0, 0), 0);
        due("24: can't be", house.lot(0, 1), 1);
        Checks.picture(house, "16;16;16;16;");
        due("24: too many MARKS", house.lot(0, 1), 1);
        due("24: no STICKS", new FanHouse().lot(0, 0), 1);
        Checks.illegal("24: half", () -> house.lot(0, 2));
        Checks.illegal("24: half", () -> house.lot(0, -1));
        Checks.illegal("24: view", () -> house.lot(4, 0));
        Checks.illegal("24: view", () -> house.lot(-1, 0));
    }

    private static void off() {
        FanHouse house = Checks.house(THREE);
        due("25: no MARKS", house.off(0), 0);
        Checks.picture(house, "1;16;3;9;9;");
        due("25: VIEW 0", house.off(0), 1);
        due("25: VIEW 1", house.off(1), 2);
        Checks.work(house, "swap 0 2;open 0 1;");
        due("25: now", house.off(0), 2);
        Checks.picture(house, "9;");
        due("25: one", house.off(0), 1);
        Checks.illegal("25: view", () -> house.off(4));
        Checks.illegal("25: view", () -> house.off(-1));
    }

    private static void run() {
        FanHouse house = Checks.house("stick 0 1 2 7;stick 0 1 2 3;stick 5 1 2 3;stick 5 4 3 3;stick 6 4 2 3;");
        due("26: VIEW 0", house.run(0, 0), 2);
        due("26: the first", house.run(0, 1), 0);
        due("26: VIEW 1", house.run(1, 0), 3);
        due("26: VIEW 1", house.run(1, 1), 1);
        due("26: VIEW 2", house.run(2, 0), 3);
        due("26: VIEW 2", house.run(2, 1), 2);
        due("26: VIEW 3", house.run(3, 0), 4);
        due("26: VIEW 3", house.run(3, 1), 3);
        due("26: no STICKS", new FanHouse().run(0, 0), 0);
        due("26: no STICKS", new FanHouse().run(0, 1), NONE);
        Checks.illegal("26: view", () -> house.run(4, 0));
        Checks.illegal("26: view", () -> house.run(-1, 0));
        Checks.illegal("26: what", () -> house.run(0, 2));
        Checks.illegal("26: what", () -> house.run(0, -1));
    }

    private static void even() {
        FanHouse house = Checks.house("stick 0 1 2 7;stick 5 1 3 3;stick 0 3 2 3;");
        due("27: VIEWS 0 and 2", house.even(), 5);
        Checks.work(house, "paint 0 1 3;open 0 1;");
        due("27: VIEWS 0, 1 and 2", house.even(), 7);
        due("27: no STICKS", new FanHouse().even(), 15);
        due("27: one STICK", Checks.house("stick 1 2 3 4;").even(), 15);
        due("27: two STICKS", Checks.house("stick 1 2 3 4;stick 1 3 3 3;").even(), 5);
    }

    private static void fits() {
        FanHouse house = Checks.house(THREE);
        due("28: no lines", house.fits(0), 6);
        due("28: no lines", house.fits(1), 0);
        Checks.book(house, "0 0 4;");
        due("28: a turn", house.fits(0), 1);
        due("28: a turn", house.fits(1), 0);
        Checks.book(house, "0 0 2;0 2 1;");
        due("28: a swap", house.fits(0), 1);
        due("28: a swap", house.fits(1), 102);
        Checks.work(house, "open 0 1;");
        due("28: were it shut", house.fits(1), 102);
        Checks.book(house, "0 0 1;0 0 2;");
        due("28: both lines", house.fits(0), 0);
        Checks.book(house, "0 3 1;");
        due("28: no such MARK", house.fits(0), 0);
        due("28: none", house.fits(1), NONE);
        Checks.book(house, "0 2 1;");
        due("28: swaps of 2", house.fits(1), 102);
        Checks.book(house, "0 1 2;");
        due("28: swap of 1 and 2", house.fits(1), 112);
        due("28: no STICKS", new FanHouse().fits(0), 0);
        due("28: no STICKS", new FanHouse().fits(1), NONE);
        Checks.illegal("28: what", () -> house.fits(2));
        Checks.illegal("28: what", () -> house.fits(-1));
    }

    private static void look() {
        FanHouse house = Checks.house(THREE);
        due("29: where", house.look(0), 2);
        due("29: left", house.look(1), 3);
        Checks.book(house, "0 6 1;");
        due("29: no FITS", house.look(0), 0);
        due("29: no FITS", house.look(1), 0);
        Checks.book(house, "0 0 4;");
        due("29: one FIT", house.look(0), 1);
        due("29: one FIT", house.look(1), 1);
        Checks.fan(house, "stick 1 2 3 4;");
        due("29: one turn", house.look(0), 0);
        Checks.book(house, "0 0 4;1 0 3;3 0 1;");
        due("29: what is left", house.look(0), 20);
        Checks.book(house, "0 0 4;1 0 3;3 0 1;2 0 2;");
        due("29: all are in lines", house.look(0), NONE);
        due("29: all are in lines", house.look(1), NONE);
        due("29: no STICKS", new FanHouse().look(0), NONE);
        due("29: no STICKS", new FanHouse().look(1), NONE);
        Checks.illegal("29: what", () -> house.look(2));
        Checks.illegal("29: what", () -> house.look(-1));
    }

    private static void ahead() {
        FanHouse house = Checks.house("stick 1 2 3 4;paint 92;");
        Checks.law(house, "20");
        Checks.work(house, "open 0 1;");
        due("30: worn", house.ahead(0, 0), 20);
        due("30: worn", house.ahead(6, 0), 2);
        due("30: worn", house.ahead(7, 0), 0);
        due("30: pots", house.ahead(3, 1), 98);
        due("30: pots", house.ahead(4, 1), 99);
        due("30: pots", house.ahead(99, 1), 99);
        due("30: nothing stays changed", house.told(4), 0);
        Checks.work(house, "again 40[season;season;season;season;season;season;];");
        Checks.work(house, "again 40[season;season;season;season;season;season;];");
        Checks.work(house, "season;season;paint 0 0 9;paint 0 1 9;");
        due("30: SEASON 400", house.told(4), 400);
        due("30: beyond 400", house.ahead(1, 1), 99);
        due("30: pots now", house.ahead(0, 1), 97);
        Checks.illegal("30: n", () -> house.ahead(100, 0));
        Checks.illegal("30: n", () -> house.ahead(-1, 0));
        Checks.illegal("30: what", () -> house.ahead(0, 2));
        Checks.illegal("30: what", () -> house.ahead(0, -1));
    }

    private static void lasts() {
        FanHouse house = Checks.house(THREE);
        due("31: 6 times 3 of 20", house.lasts(0), 6);
        Checks.work(house, "open 1 3;");
        due("31: open", house.lasts(0), 5);
        Checks.law(house, "view");
        due("31: VIEW 1", house.lasts(1), 17);
        due("31: 999 at most", house.lasts(0), 999);
        Checks.law(house, "opened");
        due("31: 1, 2, 3, 4, 5", house.lasts(0), 5);
        Checks.law(house, "wear");
        due("31: 3, 6, 12", house.lasts(0), 2);
        due("31: nothing stays changed", house.told(2), 3);
        due("31: no STICKS", new FanHouse().lasts(0), 0);
        Checks.illegal("31: view", () -> house.lasts(4));
        Checks.illegal("31: view", () -> house.lasts(-1));
    }

    private static void sell(int v, int w, int many, int first, int together) {
        FanHouse house = new FanHouse();
        due("32: sellers(" + v + ", " + w + ", 0)", house.sellers(v, w, 0), many);
        due("32: sellers(" + v + ", " + w + ", 1)", house.sellers(v, w, 1), first);
        due("32: sellers(" + v + ", " + w + ", 2)", house.sellers(v, w, 2), together);
    }

    private static void sellers() {
        sell(5, 3, 2, 0, 10);
        sell(3, 5, 1, 11, 4);
        sell(3, 3, 2, 0, 6);
        sell(0, 0, 4, 0, 0);
        sell(1, 0, 2, 0, 2);
        sell(0, 1, 3, 1, 1);
        sell(1, 1, 4, 0, 2);
        sell(99, 99, 2, 0, 198);
        sell(0, 2, 1, 11, 2);
        FanHouse house = new FanHouse();
        Checks.illegal("32: v", () -> house.sellers(100, 0, 0));
        Checks.illegal("32: v", () -> house.sellers(-1, 0, 0));
        Checks.illegal("32: w", () -> house.sellers(0, 100, 0));
        Checks.illegal("32: w", () -> house.sellers(0, -1, 0));
        Checks.illegal("32: what", () -> house.sellers(0, 0, 3));
        Checks.illegal("32: what", () -> house.sellers(0, 0, -1));
    }

    /** Follows a YEAR draw by draw, with only the law of draws and of steps written anew. */
    private static int[] lived(int seed, int q, int seasons, int sticks, int rivet, int pots) {
        int[] at = new int[sticks];
        int[][] marks = new int[sticks][4];
        for (int i = 0; i < sticks; i++) {
            at[i] = i;
        }
        int[] drawn = {seed};
        int over = 0;
        int wear = 0;
        int opened = 0;
        boolean open = false;
        for (int i = 0; i < 4 * seasons; i++) {
            if (draw(drawn, 16) < q && sticks > 0) {
                switch (draw(drawn, 6)) {
                    case 0 -> {
                        draw(drawn, 4);
                        int wide = draw(drawn, sticks) + 1;
                        if (!open && wear + wide <= rivet) {
                            open = true;
                            opened++;
                            wear += wide;
                        }
                    }
                    case 1 -> open = false;
                    case 2 -> {
                        int p = draw(drawn, sticks);
                        int o = draw(drawn, sticks);
                        if (!open) {
                            int stick = at[p];
                            at[p] = at[o];
                            at[o] = stick;
                        }
                    }
                    case 3 -> {
                        int p = draw(drawn, sticks);
                        over ^= open ? 0 : 1 << at[p];
                    }
                    case 4 -> {
                        int stick = at[draw(drawn, sticks)];
                        int half = draw(drawn, 4);
                        int told = (over >> stick & 1) == 1 ? 3 - half : half;
                        int mark = draw(drawn, 16);
                        if (pots > 0 && marks[stick][told] != mark) {
                            marks[stick][told] = mark;
                            pots--;
                        }
                    }
                    default -> wear /= 2;
                }
            }
            if (i % 4 == 3) {
                wear = Math.max(0, wear - 3);
                pots = Math.min(99, pots + 2);
            }
        }
        return new int[] {opened, wear, pots, over};
    }

    private static int draw(int[] seed, int by) {
        seed[0] = seed[0] * 1103515245 + 12345;
        return (seed[0] >> 16 & 0x7fff) % by;
    }

    private static void year() {
        for (int sticks = 0; sticks <= 7; sticks++) {
            FanHouse house = Checks.house("stick 0 0 0 0;".repeat(sticks) + "rivet 9;paint 1;");
            for (int i = 0; i < 24; i++) {
                int seed = i * 1234567891 - 5;
                int q = i % 17;
                int seasons = i % 2 == 0 ? 1 + i : 48 - i;
                int[] want = lived(seed, q, seasons, sticks, 9, 1);
                for (int what = 0; what < 4; what++) {
                    due("33: year(" + seed + ", " + q + ", " + seasons + ", " + what + ") of " + sticks,
                            house.year(seed, q, seasons, what), want[what]);
                }
            }
            due("33: nothing stays changed", house.told(3), 1);
        }
        FanHouse house = Checks.house(THREE);
        Checks.work(house, "turn 1;open 0 3;");
        due("33: opened in it alone", house.year(5, 0, 1, 0), 0);
        due("33: worn", house.year(5, 0, 1, 1), 0);
        due("33: pots", house.year(5, 0, 2, 2), 7);
        due("33: turned over", house.year(5, 0, 2, 3), 2);
        Checks.illegal("33: q", () -> house.year(1, 17, 1, 0));
        Checks.illegal("33: q", () -> house.year(1, -1, 1, 0));
        Checks.illegal("33: seasons", () -> house.year(1, 1, 0, 0));
        Checks.illegal("33: seasons", () -> house.year(1, 1, 49, 0));
        Checks.illegal("33: what", () -> house.year(1, 1, 1, 4));
        Checks.illegal("33: what", () -> house.year(1, 1, 1, -1));
    }

    private static void span() {
        FanHouse house = Checks.house(THREE);
        int[] seeds = {1, -3, Integer.MAX_VALUE - 4};
        for (int seed : seeds) {
            int fewest = 999;
            int most = 0;
            for (int i = 0; i < 10; i++) {
                fewest = Math.min(fewest, house.year(seed + i, 12, 9, 0));
                most = Math.max(most, house.year(seed + i, 12, 9, 0));
            }
            due("34: fewest", house.span(seed, 10, 12, 9, 0), fewest);
            due("34: most", house.span(seed, 10, 12, 9, 1), most);
            due("34: no MARKS", house.span(seed, 10, 12, 9, 2), 10);
        }
        Checks.picture(house, "1;1;2;");
        due("34: nothing happens", house.span(1, 7, 0, 3, 2), 7);
        int showing = house.span(1, 10, 16, 2, 2);
        int each = 0;
        for (int i = 0; i < 10; i++) {
            each += house.span(1 + i, 1, 16, 2, 2);
        }
        due("34: each of them", showing, each);
        due("34: some do not", showing < 10 ? 1 : 0, 1);
        Checks.illegal("34: many", () -> house.span(1, 0, 1, 1, 0));
        Checks.illegal("34: many", () -> house.span(1, 11, 1, 1, 0));
        Checks.illegal("34: q", () -> house.span(1, 1, 17, 1, 0));
        Checks.illegal("34: q", () -> house.span(1, 1, -1, 1, 0));
        Checks.illegal("34: seasons", () -> house.span(1, 1, 1, 0, 0));
        Checks.illegal("34: seasons", () -> house.span(1, 1, 1, 49, 0));
        Checks.illegal("34: what", () -> house.span(1, 1, 1, 1, 3));
        Checks.illegal("34: what", () -> house.span(1, 1, 1, 1, -1));
    }

    private static void image() {
        FanHouse house = Checks.house(THREE);
        due("35: image", house.image(), 1);
        due("35: image", house.image(), 2);
        due("35: image", house.image(), 3);
        due("35: too many", house.image(), -1);
        due("35: IMAGES", house.count(0), 3);
    }

    private static void restore() {
        FanHouse house = Checks.house(THREE);
        due("36: none", house.restore(), -1);
        Checks.work(house, "turn 0;open 2 2;");
        house.image();
        Checks.work(house, "shut;paint 0 0 9;swap 1 2;season;shut;");
        Checks.law(house, "5");
        Checks.picture(house, "1;2;");
        house.image();
        house.undo();
        house.undo();
        due("36: to the latest", house.restore(), 1);
        due("36: WORKS", house.count(2), 2);
        due("36: SEASON", house.told(4), 1);
        due("36: PLACE", house.at(1), 2);
        due("36: MARK", house.stick(0, 2), 9);
        due("36: to the first", house.restore(), 0);
        due("36: WORKS", house.count(2), 1);
        due("36: opened", house.told(5), 1);
        due("36: VIEW", house.told(7), 2);
        due("36: wide", house.told(8), 2);
        due("36: MARK", house.stick(0, 2), 4);
        due("36: the LAW is not of it", house.strain(0, 1), 5);
        due("36: nor the PICTURE", house.told(11), 2);
        due("36: none", house.restore(), -1);
        due("36: undo behind it", house.undo(), 0);
        due("36: shut", house.told(7), NONE);
        due("36: turned back", house.told(6), 0);
        restoreKeepsWorks();
    }

    private static void restoreKeepsWorks() {
        FanHouse house = Checks.house(THREE);
        Checks.work(house, "turn 0;");
        Checks.work(house, "turn 1;");
        house.image();
        house.undo();
        house.undo();
        Checks.work(house, "turn 2;");
        Checks.work(house, "season;");
        Checks.work(house, "season;");
        due("36: restore", house.restore(), 0);
        due("36: turned over", house.told(6), 3);
        due("36: undo", house.undo(), 1);
        due("36: as ahead of that WORK", house.told(6), 1);
        due("36: undo", house.undo(), 0);
        due("36: as ahead of all", house.told(6), 0);
        due("36: REFUSED by the latest WORK", Checks.work(house, "oil;"), 0);
        due("36: none to restore", house.restore(), -1);
        due("36: nothing is done then", house.told(10), 1);
    }

    private static void status() {
        FanHouse house = Checks.house(THREE);
        house.image();
        Checks.missing("37: at(9)", () -> house.at(9));
        Checks.missing("37: stick(9, 9)", () -> house.stick(9, 9));
        Checks.illegal("37: told(99)", () -> house.told(99));
        due("37: NoSuchElementException", house.status(0), 2);
        due("37: IllegalArgumentException", house.status(1), 1);
        due("37: others", house.status(2), NONE);
        due("37: others", house.status(-1), NONE);
        house.restore();
        due("37: no IMAGE keeps it", house.status(0), 2);
        Checks.fan(house, THREE);
        due("37: nor a FAN", house.status(1), 1);
    }

    private static void count() {
        FanHouse house = Checks.house(THREE);
        house.image();
        house.feed(0, 0, 0, 0, 0);
        due("38: IMAGES", house.count(0), 1);
        due("38: TAPE", house.count(1), 20);
        due("38: WORKS", house.count(2), 0);
        house.work(0);
        due("38: WORKS", house.count(2), 1);
        due("38: others", house.count(3), NONE);
        due("38: others", house.count(-1), NONE);
    }
}
