/** The edges of the texts ("Terms"): FAN, LAW, WORK, PICTURE, BOOK, and their FAULTS, each sentence by itself. */
public final class TextEdgeTest {
    private static final String THREE = "stick 1 2 3 4;stick 1 1 5 5;stick 2 1 4 3;rivet 20;paint 3;";
    private static final String SEVEN = "stick 9 9 9 9;".repeat(7);
    /** 2 by 31, which wraps to the least number. */
    private static final String LEAST_NUMBER = "64*32*32*32*32*32";
    private static final int NONE = FanHouse.NONE;
    private static final int CANNOT_STAND = 1;
    private static final int NO_SUCH_NUMBER = 2;
    private static final int TOO_MANY = 3;

    private static final Reading FAN = Checks::fan;
    private static final Reading LAW = Checks::law;
    private static final Reading WORK = Checks::work;
    private static final Reading PICTURE = Checks::picture;
    private static final Reading OTHER = Checks::other;
    private static final Reading BOOK = Checks::book;

    private interface Reading {
        int read(FanHouse house, String text);
    }

    private TextEdgeTest() {
    }

    public static void main(String[] args) {
        fanEdges();
        rivetEdges();
        lawEdges();
        lawNumbers();
        lawFacts();
        workEdges();
        workNumbers();
        pictureEdges();
        bookEdges();
        signs();
        blanks();
        faults();
        tooMany();
        Checks.end("TextEdgeTest");
    }

    private static void edge(String words, Checks.Edge test) {
        Checks.edge(words, test);
    }

    private static void due(String what, long got, long want) {
        Checks.due(what, got, want);
    }

    /** The house that a good text leaves. */
    private static FanHouse reads(Reading by, String text, int answer) {
        FanHouse house = Checks.house(THREE);
        due("'" + text + "'", by.read(house, text), answer);
        due("fault() behind '" + text + "'", house.fault(), NONE);
        due("the TAPE behind '" + text + "'", house.count(1), 0);
        return house;
    }

    private static void faulty(Reading by, String text, int kind, int place) {
        FanHouse house = Checks.house(THREE);
        due("'" + text + "'", by.read(house, text), kind - 10);
        due("fault() behind '" + text + "'", house.fault(), place);
        due("the TAPE behind '" + text + "'", house.count(1), 0);
    }

    private static void strains(String law, int want) {
        FanHouse house = reads(LAW, law, 1);
        due("STRAIN by '" + law + "'", house.would(0, 1, 0, 0, 0, 0, 0), want);
    }

    private static void fanEdges() {
        edge("A FAN is a text of up to 600 bytes", () -> {
            due("rivet", reads(FAN, "rivet  10;".repeat(59) + "rivet  11;", 0).told(1), 11);
            faulty(FAN, "rivet  10;".repeat(59) + "rivet   10", CANNOT_STAND, 600);
            due("no bytes", reads(FAN, "", 0).told(0), 0);
        });
        edge("{ CLAUSE \";\" }, at most 60", () -> {
            due("pots", reads(FAN, "paint 1;".repeat(59) + "paint 2;", 0).told(3), 2);
            reads(FAN, "paint 1;".repeat(60) + "  ", 0);
            faulty(FAN, "paint 1;".repeat(60) + "paint 1;", TOO_MANY, 480);
            faulty(FAN, "paint 1;".repeat(60) + " rivet 1;", TOO_MANY, 481);
            faulty(FAN, "paint 1;".repeat(60) + "stick 1 2 3 4;", TOO_MANY, 480);
            faulty(FAN, "paint 1;".repeat(60) + "paint", TOO_MANY, 480);
            faulty(FAN, SEVEN + "paint 1;".repeat(54), TOO_MANY, 98 + 53 * 8);
            reads(FAN, SEVEN + "paint 1;".repeat(53), 7);
        });
        edge("STICKS, numbered from 0 on, 7 at most", () -> {
            reads(FAN, "rivet 1;", 0);
            reads(FAN, "stick 9 9 9 9;", 1);
            FanHouse house = reads(FAN, "stick 9 9 9 9;".repeat(6) + "stick 1 2 3 4;rivet 7;", 7);
            due("the last one is STICK 6", house.stick(6, 2), 1);
            due("the first one is STICK 0", house.stick(0, 2), 9);
            due("behind the 7th", house.told(1), 7);
            faulty(FAN, SEVEN + "stick 9 9 9 9;", TOO_MANY, 98);
        });
        edge("MARKS of its halves 0, 1, 2, 3, each 0 to 15", () -> {
            FanHouse house = reads(FAN, "stick 0 15 0 15;stick 15 0 15 0;", 2);
            for (int half = 0; half < 4; half++) {
                due("half " + half, house.stick(0, 2 + half), half % 2 * 15);
                due("half " + half, house.stick(1, 2 + half), 15 - half % 2 * 15);
            }
            faulty(FAN, "stick 16 0 0 0;", NO_SUCH_NUMBER, 6);
            faulty(FAN, "stick 0 16 0 0;", NO_SUCH_NUMBER, 8);
            faulty(FAN, "stick 0 0 16 0;", NO_SUCH_NUMBER, 10);
            faulty(FAN, "stick 0 0 0 16;", NO_SUCH_NUMBER, 12);
            faulty(FAN, "stick 0 0 0;", CANNOT_STAND, 11);
            faulty(FAN, "stick 0 0 0 0 0;", CANNOT_STAND, 14);
        });
    }

    private static void rivetEdges() {
        edge("\"rivet\" N (1 to 200", () -> {
            due("least", reads(FAN, "rivet 1;", 0).told(1), 1);
            due("most", reads(FAN, "rivet 200;", 0).told(1), 200);
            faulty(FAN, "rivet 0;", NO_SUCH_NUMBER, 6);
            faulty(FAN, "rivet 201;", NO_SUCH_NUMBER, 6);
        });
        edge("99 without", () -> {
            FanHouse house = reads(FAN, "rivet 7;", 0);
            Checks.fan(house, "paint 5;");
            due("without rivet", house.told(1), 99);
        });
        edge("rivet: the last counts", () -> {
            due("rivet", reads(FAN, "rivet 7;rivet 200;rivet 8;", 0).told(1), 8);
            due("rivet", reads(FAN, "rivet 8;stick 1 1 1 1;rivet 9;paint 5;", 1).told(1), 9);
        });
        edge("\"paint\" N (pots, 0 to 99", () -> {
            due("least", reads(FAN, "paint 0;", 0).told(3), 0);
            due("most", reads(FAN, "paint 99;", 0).told(3), 99);
            faulty(FAN, "paint 100;", NO_SUCH_NUMBER, 6);
        });
        edge("20 without", () -> {
            FanHouse house = reads(FAN, "paint 7;", 0);
            Checks.fan(house, "rivet 5;");
            due("without paint", house.told(3), 20);
        });
        edge("paint: likewise", () -> due("pots", reads(FAN, "paint 7;paint 99;rivet 3;paint 8;", 0).told(3), 8));
    }

    private static void lawEdges() {
        edge("A LAW is a text of up to 150 bytes", () -> {
            due("strain", reads(LAW, "0+".repeat(74) + " 7", 1).strain(0, 1), 7);
            faulty(LAW, "0+".repeat(75), CANNOT_STAND, 150);
            due("150 bytes of one number", reads(LAW, "0".repeat(149) + "7", 1).strain(0, 1), 7);
        });
        edge("E, at the end nothing more", () -> {
            faulty(LAW, "wide;", CANNOT_STAND, 4);
            faulty(LAW, "wide 1", CANNOT_STAND, 5);
            faulty(LAW, "wide wide", CANNOT_STAND, 5);
            faulty(LAW, "wide)", CANNOT_STAND, 4);
            faulty(LAW, "", CANNOT_STAND, 0);
        });
        edge("without: wide", () -> {
            for (int n = 1; n <= 7; n++) {
                due("STRAIN to " + n, new FanHouse().strain(3, n), n);
            }
            FanHouse house = reads(LAW, "5", 1);
            Checks.fan(house, THREE);
            due("behind another FAN", house.strain(0, 3), 3);
        });
        edge("what comes out, 0 at least, 60 at most", () -> {
            strains("0-1", 0);
            strains("0", 0);
            strains("1", 1);
            strains("59", 59);
            strains("60", 60);
            strains("61", 60);
            strains("999", 60);
            strains(LEAST_NUMBER, 0);
            strains(LEAST_NUMBER + "-1", 60);
        });
        edge("E: T { + or - T }. T: U { * or / or % U }", () -> {
            strains("7", 7);
            strains("20-5-4-3", 8);
            strains("20-(5-4)-3", 16);
            strains("20-5+4", 19);
            strains("2+3*4", 14);
            strains("3*4+2", 14);
            strains("30-2*3*4", 6);
            strains("48/4/3", 4);
            strains("48/(4/3)", 48);
            strains("29%10%5", 4);
            strains("7*5%4", 3);
            strains("7*(5%4)", 7);
            faulty(LAW, "()", CANNOT_STAND, 1);
            faulty(LAW, "(1)(2)", CANNOT_STAND, 3);
            faulty(LAW, "1(2)", CANNOT_STAND, 1);
            strains("7/2*2", 6);
            faulty(LAW, "+1", CANNOT_STAND, 0);
            faulty(LAW, "1+-1", CANNOT_STAND, 2);
            faulty(LAW, "1**1", CANNOT_STAND, 2);
            faulty(LAW, "1+", CANNOT_STAND, 2);
            faulty(LAW, "1*", CANNOT_STAND, 2);
        });
    }

    private static void lawNumbers() {
        edge("N (0 to 999)", () -> {
            strains("0", 0);
            strains("999-998", 1);
            faulty(LAW, "1000", NO_SUCH_NUMBER, 0);
            faulty(LAW, "1+1000", NO_SUCH_NUMBER, 2);
        });
        edge("\"least\" \"[\" E \",\" E \"]\"", () -> {
            strains("least[3,9]", 3);
            strains("least[9,3]", 3);
            strains("least[4,4]", 4);
            strains("least[0-5,1]+9", 4);
            strains("least[" + LEAST_NUMBER + ",1]", 0);
            faulty(LAW, "least[1]", CANNOT_STAND, 7);
            faulty(LAW, "least[1,2,3]", CANNOT_STAND, 9);
            faulty(LAW, "least[,2]", CANNOT_STAND, 6);
            faulty(LAW, "least(1,2)", CANNOT_STAND, 5);
            faulty(LAW, "least[1,2)", CANNOT_STAND, 9);
        });
        edge("\"most\" \"[\" E \",\" E \"]\"", () -> {
            strains("most[3,9]", 9);
            strains("most[9,3]", 9);
            strains("most[4,4]", 4);
            strains("most[0-5,0-1]+9", 8);
            strains("most[" + LEAST_NUMBER + ",1]", 1);
            faulty(LAW, "most[1]", CANNOT_STAND, 6);
            faulty(LAW, "most[1,2", CANNOT_STAND, 8);
        });
        edge("Values are whole numbers of 32 bits that wrap", () -> {
            strains(LEAST_NUMBER + "-1+1", 0);
            strains("0-" + LEAST_NUMBER, 0);
            strains("0-" + LEAST_NUMBER + "-1", 60);
            strains("(46*999+386)*(46*999+386)", 60);
            strains("(46*999+387)*(46*999+387)", 0);
            strains("256*256*256*256+7", 7);
            strains("256*256*256*256*999+7", 7);
            strains("(" + LEAST_NUMBER + "-1)*2+9", 7);
        });
        edge("/ cuts", () -> {
            strains("7/2", 3);
            strains("(0-7)/2+10", 7);
            strains("7/(0-2)+10", 7);
            strains("(0-7)/(0-2)", 3);
            strains("1/2", 0);
            strains("(0-1)/2+5", 5);
            strains("(" + LEAST_NUMBER + ")/(0-1)", 0);
        });
        edge("% leaves (with the sign of what is divided)", () -> {
            strains("7%3", 1);
            strains("(0-7)%3+10", 9);
            strains("7%(0-3)+10", 11);
            strains("(0-7)%(0-3)+10", 9);
            strains("6%3+2", 2);
            strains("(" + LEAST_NUMBER + ")%(0-1)+5", 5);
        });
        edge("by 0 both are 0", () -> {
            strains("7/0+3", 3);
            strains("7%0+3", 3);
            strains("0/0+3", 3);
            strains("0%0+3", 3);
            strains("(0-7)/(5-5)+3", 3);
            strains("(0-7)%view+3", 3);
        });
    }

    private static void lawFacts() {
        edge("\"view\" (the VIEW, 0 to 3)", () -> {
            FanHouse house = reads(LAW, "view", 1);
            for (int view = 0; view < 4; view++) {
                due("view", house.strain(view, 5), view);
            }
        });
        edge("\"wide\" (how many STICKS are opened)", () -> {
            FanHouse house = reads(LAW, "wide*2", 1);
            for (int n = 1; n <= 7; n++) {
                due("wide", house.strain(3, n), 2 * n);
            }
        });
        edge("\"wear\" (by now)", () -> {
            FanHouse house = reads(LAW, "wear*2+1", 1);
            Checks.work(house, "open 0 1;");
            due("0 ahead of the first one", house.told(2), 1);
            Checks.work(house, "shut;open 0 1;");
            due("worn by 1 ahead of the next one", house.told(2), 4);
        });
        edge("\"opened\" (how often it was opened by now)", () -> {
            FanHouse house = reads(LAW, "opened*5", 1);
            Checks.work(house, "open 0 1;");
            due("not ahead of the first one", house.told(2), 0);
            Checks.work(house, "open 0 1;shut;open 0 1;");
            due("once ahead of the second one", house.told(2), 5);
        });
        edge("\"turned\" (how many STICKS are turned over by now)", () -> {
            FanHouse house = reads(LAW, "turned", 1);
            due("none", house.strain(0, 1), 0);
            Checks.work(house, "turn 2;");
            due("STICK 2", house.strain(0, 1), 1);
            Checks.work(house, "turn 0;turn 1;");
            due("all", house.strain(0, 1), 3);
        });
        edge("\"pots\" (by now)", () -> {
            FanHouse house = reads(LAW, "pots", 1);
            due("as told", house.strain(0, 1), 3);
            Checks.work(house, "paint 0 0 9;paint 0 1 9;paint 0 2 9;");
            due("none", house.strain(0, 1), 0);
        });
        edge("\"season\" (the SEASON)", () -> {
            FanHouse house = reads(LAW, "season", 1);
            due("0 at first", house.strain(0, 1), 0);
            Checks.work(house, "season;season;");
            due("2", house.strain(0, 1), 2);
        });
    }

    private static void workEdges() {
        edge("WORK is a text of up to 150 bytes", () -> {
            due("turned over", reads(WORK, "shut;".repeat(28) + "   turn 1;", 1).told(6), 2);
            faulty(WORK, "shut;".repeat(28) + "    turn 1", CANNOT_STAND, 150);
            due("REFUSED", reads(WORK, "oil;".repeat(37) + "  ", 0).told(10), 37);
            reads(WORK, "", 0);
        });
        edge("\"open\" V N (V 0 to 3, N 1 to 7)", () -> {
            due("VIEW", reads(WORK, "open 0 1;", 1).told(7), 0);
            due("VIEW", reads(WORK, "open 3 1;", 1).told(7), 3);
            due("REFUSED, not a FAULT", reads(WORK, "open 0 7;", 0).told(10), 1);
            faulty(WORK, "open 4 1;", NO_SUCH_NUMBER, 5);
            faulty(WORK, "open 0 0;", NO_SUCH_NUMBER, 7);
            faulty(WORK, "open 0 8;", NO_SUCH_NUMBER, 7);
            faulty(WORK, "open 0;", CANNOT_STAND, 6);
            faulty(WORK, "open 0 1 1;", CANNOT_STAND, 9);
        });
        edge("\"again\" N \"[\" { STEP \";\" } \"]\" (N 0 to 40)", () -> {
            due("0 times", reads(WORK, "again 0[turn 0;];", 0).told(6), 0);
            due("once", reads(WORK, "again 1[turn 0;];", 1).told(6), 1);
            due("40 times", reads(WORK, "again 40[season;];", 40).told(4), 40);
            reads(WORK, "again 40[];", 0);
            faulty(WORK, "again 41[];", NO_SUCH_NUMBER, 6);
            faulty(WORK, "again [];", CANNOT_STAND, 6);
            faulty(WORK, "again 1;", CANNOT_STAND, 7);
            faulty(WORK, "again 1[shut];", CANNOT_STAND, 12);
            faulty(WORK, "again 1[shut;]", CANNOT_STAND, 14);
            faulty(WORK, "again 1[shut;;", CANNOT_STAND, 13);
            faulty(WORK, "shut;];", CANNOT_STAND, 5);
        });
        edge("P: a PLACE, from 0 on, as many as there are STICKS", () -> {
            due("the last", reads(WORK, "turn 2;", 1).told(6), 4);
            due("the first", reads(WORK, "turn 0;", 1).told(6), 1);
            due("the last", reads(WORK, "swap 0 2;", 1).at(0), 2);
            due("the last", reads(WORK, "paint 2 0 9;", 1).stick(2, 2), 9);
            faulty(WORK, "turn 3;", NO_SUCH_NUMBER, 5);
            faulty(WORK, "swap 3 0;", NO_SUCH_NUMBER, 5);
            faulty(WORK, "swap 0 3;", NO_SUCH_NUMBER, 7);
            faulty(WORK, "paint 3 0 0;", NO_SUCH_NUMBER, 6);
            faulty(WORK, "again 1[turn 3;];", NO_SUCH_NUMBER, 13);
            faulty(WORK, "again 1[again 1[swap 0 3;];];", NO_SUCH_NUMBER, 23);
            FanHouse none = new FanHouse();
            due("no STICKS", Checks.work(none, "turn 0;"), -8);
            due("no STICKS", none.fault(), 5);
            FanHouse seven = Checks.house(SEVEN);
            due("7 STICKS", Checks.work(seven, "turn 6;swap 6 5;paint 6 0 0;"), 3);
            due("7 STICKS", Checks.work(seven, "turn 7;"), -8);
        });
    }

    private static void workNumbers() {
        edge("\"paint\" P H M (H 0 to 3, M 0 to 15)", () -> {
            due("least", reads(WORK, "paint 0 0 0;", 1).stick(0, 2), 0);
            due("most", reads(WORK, "paint 0 3 15;", 1).stick(0, 5), 15);
            faulty(WORK, "paint 0 4 0;", NO_SUCH_NUMBER, 8);
            faulty(WORK, "paint 0 0 16;", NO_SUCH_NUMBER, 10);
            faulty(WORK, "paint 0 0;", CANNOT_STAND, 9);
            faulty(WORK, "paint 0 0 0 0;", CANNOT_STAND, 12);
        });
        edge("\"shut\", \"turn\" P, \"oil\", \"season\"", () -> {
            faulty(WORK, "shut 0;", CANNOT_STAND, 5);
            faulty(WORK, "oil 0;", CANNOT_STAND, 4);
            faulty(WORK, "season 1;", CANNOT_STAND, 7);
            faulty(WORK, "turn;", CANNOT_STAND, 4);
            faulty(WORK, "turn 0 0;", CANNOT_STAND, 7);
            faulty(WORK, "swap 0;", CANNOT_STAND, 6);
            faulty(WORK, "swap 0 1 2;", CANNOT_STAND, 9);
            faulty(WORK, ";", CANNOT_STAND, 0);
            faulty(WORK, "shut;;", CANNOT_STAND, 5);
            faulty(WORK, "stick 1 2 3 4;", CANNOT_STAND, 0);
        });
    }

    private static void pictureEdges() {
        edge("A PICTURE is one of up to 60 bytes", () -> {
            due("MARKS", reads(PICTURE, "1;" + " ".repeat(56) + "2;", 2).told(11), 2);
            faulty(PICTURE, "1;" + " ".repeat(57) + "2", CANNOT_STAND, 60);
            due("the OTHER one", reads(OTHER, "1;" + " ".repeat(56) + "2;", 2).told(12), 2);
            due("no bytes", reads(PICTURE, "", 0).told(11), 0);
        });
        edge("{ M \";\" }, 7 at most", () -> {
            due("7", reads(PICTURE, "0;1;2;3;4;5;6;", 7).told(11), 7);
            due("7", reads(OTHER, "0;1;2;3;4;5;6;", 7).told(12), 7);
            faulty(PICTURE, "0;1;2;3;4;5;6;7;", TOO_MANY, 14);
            faulty(OTHER, "0;1;2;3;4;5;6; 7;", TOO_MANY, 15);
        });
        edge("M a MARK (0 to 15), or 16: any", () -> {
            FanHouse house = Checks.house("stick 0 15 7 0;");
            due("0", Checks.picture(house, "0;"), 1);
            due("0 is no any", house.shows(1), false);
            due("0", house.shows(0), true);
            due("15", Checks.picture(house, "15;"), 1);
            due("15 is no any", house.shows(0), false);
            due("15", house.shows(1), true);
            due("16", Checks.picture(house, "16;"), 1);
            due("any", house.shows(0) && house.shows(1) && house.shows(2) && house.shows(3), true);
            faulty(PICTURE, "17;", NO_SUCH_NUMBER, 0);
            faulty(OTHER, "16;17;", NO_SUCH_NUMBER, 3);
        });
    }

    private static void due(String what, boolean got, boolean want) {
        due(what, got ? 1 : 0, want ? 1 : 0);
    }

    private static void bookEdges() {
        edge("A BOOK is one of up to 60 bytes", () -> {
            due("lines", reads(BOOK, "0 0 1;" + " ".repeat(48) + "3 2 1;", 2).told(9), 2);
            faulty(BOOK, "0 0 1;" + " ".repeat(49) + "3 2 1", CANNOT_STAND, 60);
            due("no bytes", reads(BOOK, "", 0).told(9), 0);
        });
        edge("{ V K M \";\" }, 7 at most", () -> {
            due("7", reads(BOOK, "0 0 0;".repeat(7), 7).told(9), 7);
            faulty(BOOK, "0 0 0;".repeat(8), TOO_MANY, 42);
            faulty(BOOK, "0 0 0;".repeat(7) + "  0 0 0;", TOO_MANY, 44);
        });
        edge("VIEW V (0 to 3)", () -> {
            reads(BOOK, "0 0 0;3 0 0;", 2);
            faulty(BOOK, "4 0 0;", NO_SUCH_NUMBER, 0);
        });
        edge("MARK M (0 to 15)", () -> {
            reads(BOOK, "0 0 0;0 0 15;", 2);
            faulty(BOOK, "0 0 16;", NO_SUCH_NUMBER, 4);
        });
        edge("at K (0 to 6)", () -> {
            reads(BOOK, "0 0 0;0 6 0;", 2);
            faulty(BOOK, "0 7 0;", NO_SUCH_NUMBER, 2);
        });
        edge("BOOK: of a line three numbers, no more, no less", () -> {
            faulty(BOOK, "0 0;", CANNOT_STAND, 3);
            faulty(BOOK, "0 0 0 0;", CANNOT_STAND, 6);
            faulty(BOOK, "0;", CANNOT_STAND, 1);
        });
    }

    private static void signs() {
        edge("Numbers: digits, as many as stand there", () -> {
            due("zeros ahead", reads(FAN, "rivet 000000000000000000000200;", 0).told(1), 200);
            due("zeros alone", reads(FAN, "paint 0000;", 0).told(3), 0);
            String[] wrapped = {"4294967297", "4294967296", "2147483648", "18446744073709551617",
                "340282366920938463463374607431768211457", "10000000000000000000000000000001", "65537", "257"};
            for (String number : wrapped) {
                faulty(FAN, "rivet " + number + ";", NO_SUCH_NUMBER, 6);
                faulty(FAN, "stick 1 2 3 " + number + ";", NO_SUCH_NUMBER, 12);
                faulty(WORK, "again " + number + "[];", NO_SUCH_NUMBER, 6);
                faulty(WORK, "turn " + number + ";", NO_SUCH_NUMBER, 5);
                faulty(PICTURE, number + ";", NO_SUCH_NUMBER, 0);
                faulty(BOOK, number + " 0 0;", NO_SUCH_NUMBER, 0);
            }
            faulty(LAW, "4294967297", NO_SUCH_NUMBER, 0);
            faulty(LAW, "18446744073709551617", NO_SUCH_NUMBER, 0);
            faulty(FAN, "rivet 1 2;", CANNOT_STAND, 8);
            faulty(FAN, "rivet -1;", CANNOT_STAND, 6);
            faulty(FAN, "rivet +1;", CANNOT_STAND, 6);
            faulty(FAN, "rivet 1.0;", CANNOT_STAND, 7);
            faulty(FAN, "rivet ;", CANNOT_STAND, 6);
        });
        edge("WORDS: small letters, as many as stand there", () -> {
            due("a number right behind it", reads(FAN, "rivet5;", 0).told(1), 5);
            faulty(FAN, "rivets 5;", CANNOT_STAND, 0);
            faulty(FAN, "rive 5;", CANNOT_STAND, 0);
            faulty(FAN, "rivetpaint 5;", CANNOT_STAND, 0);
            faulty(FAN, "Rivet 5;", CANNOT_STAND, 0);
            String[] fan = {"stick", "rivet", "paint"};
            String[] work = {"open", "shut", "swap", "turn", "paint", "oil", "season", "again"};
            String[] law = {"view", "wide", "wear", "opened", "turned", "pots", "season", "least", "most"};
            spoilt(FAN, fan, " 1;");
            spoilt(WORK, work, ";");
            spoilt(LAW, law, "");
            faulty(FAN, "riveT 5;", CANNOT_STAND, 0);
            faulty(FAN, "ri vet 5;", CANNOT_STAND, 0);
            faulty(FAN, "rivet{ 5;", CANNOT_STAND, 5);
            faulty(FAN, "rivet` 5;", CANNOT_STAND, 5);
            faulty(WORK, "shuts;", CANNOT_STAND, 0);
            faulty(WORK, "agai 1[];", CANNOT_STAND, 0);
            faulty(WORK, "turnz 0;", CANNOT_STAND, 0);
            faulty(LAW, "wid", CANNOT_STAND, 0);
            faulty(LAW, "wide2", CANNOT_STAND, 4);
            faulty(LAW, "2wide", CANNOT_STAND, 1);
            faulty(LAW, "viewwide", CANNOT_STAND, 0);
            faulty(LAW, "seasons", CANNOT_STAND, 0);
            faulty(LAW, "open", CANNOT_STAND, 0);
            faulty(LAW, "leastz[1,2]", CANNOT_STAND, 0);
            faulty(LAW, "mosta[1,2]", CANNOT_STAND, 0);
        });
    }

    /** Each of the words with one letter of it changed, left out or put in. */
    private static void spoilt(Reading by, String[] words, String behind) {
        for (String word : words) {
            for (int i = 0; i < word.length(); i++) {
                String ahead = word.substring(0, i);
                String rest = word.substring(i + 1);
                faulty(by, ahead + "q" + rest + behind, CANNOT_STAND, 0);
                faulty(by, ahead + rest + behind, CANNOT_STAND, 0);
                faulty(by, ahead + "q" + word.charAt(i) + rest + behind, CANNOT_STAND, 0);
                faulty(by, ahead + Character.toUpperCase(word.charAt(i)) + rest + behind, CANNOT_STAND, 0);
            }
            faulty(by, word + "q" + behind, CANNOT_STAND, 0);
        }
    }

    private static void blanks() {
        edge("blanks (32) may stand ahead of all these, and at the end", () -> {
            due("FAN", reads(FAN, "  stick  1   2  3 4  ;  rivet   9 ;  ", 1).told(1), 9);
            due("no blanks", reads(FAN, "stick1 2 3 4;rivet9;", 1).told(1), 9);
            due("blanks alone", reads(FAN, "     ", 0).told(1), 99);
            due("LAW", reads(LAW, "  least  [  wide  ,  9  ]  *  ( 2 + 3 )  ", 1).strain(0, 2), 10);
            due("WORK", reads(WORK, "  again  2  [  turn  0  ;  turn 1  ;  ]  ;  ", 4).told(6), 0);
            reads(WORK, "   ", 0);
            due("PICTURE", reads(PICTURE, "  1  ;  16  ;  ", 2).told(11), 2);
            reads(PICTURE, " ", 0);
            due("BOOK", reads(BOOK, "  0  0  1  ;  ", 1).told(9), 1);
            reads(BOOK, "  ", 0);
        });
        edge("blanks (32): no other byte", () -> {
            int[] others = {0, 9, 10, 13, 31, 33, 95, 127, 160, 255};
            for (int other : others) {
                faulty(FAN, "rivet 9;" + (char) other, CANNOT_STAND, 8);
                faulty(FAN, (char) other + "rivet 9;", CANNOT_STAND, 0);
                faulty(FAN, "rivet" + (char) other + "9;", CANNOT_STAND, 5);
                faulty(LAW, "wide" + (char) other, CANNOT_STAND, 4);
                faulty(WORK, "shut;" + (char) other, CANNOT_STAND, 5);
                faulty(PICTURE, "1;" + (char) other + "2;", CANNOT_STAND, 2);
                faulty(BOOK, "1" + (char) other + "2 3;", CANNOT_STAND, 1);
            }
        });
    }

    private static void faults() {
        edge("FAULTS, the first from the left, at its first byte", () -> {
            faulty(FAN, "rivet 999;paint 999;x", NO_SUCH_NUMBER, 6);
            faulty(FAN, "stick 1 99 99;", NO_SUCH_NUMBER, 8);
            faulty(FAN, "x;" + SEVEN + SEVEN, CANNOT_STAND, 0);
            faulty(FAN, SEVEN + "stick 99 9 9 9;x", TOO_MANY, 98);
            faulty(LAW, "1000+x", NO_SUCH_NUMBER, 0);
            faulty(LAW, "x+1000", CANNOT_STAND, 0);
            faulty(LAW, "((((((1000+(", NO_SUCH_NUMBER, 6);
            faulty(WORK, "turn 9;swap 9 9;x", NO_SUCH_NUMBER, 5);
            faulty(PICTURE, "1;;17;", CANNOT_STAND, 2);
            faulty(BOOK, "0 0 99;9 0 0;", NO_SUCH_NUMBER, 4);
        });
        edge("(at the length, if the text ends too early)", () -> {
            faulty(FAN, "rivet", CANNOT_STAND, 5);
            faulty(FAN, "rivet   ", CANNOT_STAND, 8);
            faulty(FAN, "stick 1 2 3", CANNOT_STAND, 11);
            faulty(FAN, "stick 1 2 3 4", CANNOT_STAND, 13);
            faulty(FAN, "stick 1 2 3 4;rivet 5", CANNOT_STAND, 21);
            faulty(LAW, "(1", CANNOT_STAND, 2);
            faulty(LAW, "least", CANNOT_STAND, 5);
            faulty(LAW, "least[", CANNOT_STAND, 6);
            faulty(LAW, "least[1", CANNOT_STAND, 7);
            faulty(LAW, "least[1,  ", CANNOT_STAND, 10);
            faulty(LAW, "least[1,2", CANNOT_STAND, 9);
            faulty(LAW, "wide %  ", CANNOT_STAND, 8);
            faulty(WORK, "turn", CANNOT_STAND, 4);
            faulty(WORK, "turn 0", CANNOT_STAND, 6);
            faulty(WORK, "again 1", CANNOT_STAND, 7);
            faulty(WORK, "again 1[", CANNOT_STAND, 8);
            faulty(WORK, "again 1[shut;  ", CANNOT_STAND, 15);
            faulty(WORK, "again 1[shut;]", CANNOT_STAND, 14);
            faulty(PICTURE, "1", CANNOT_STAND, 1);
            faulty(BOOK, "1 ", CANNOT_STAND, 2);
            faulty(BOOK, "1 1 1", CANNOT_STAND, 5);
        });
        edge("(at the length): bytes of the TAPE behind the text are not of it", () -> {
            FanHouse house = Checks.house(THREE);
            Checks.feed(house, "rivet 5;");
            due("fan(7)", house.fan(7), -9);
            due("fault", house.fault(), 7);
            Checks.feed(house, "rivet 55;");
            due("fan(7)", house.fan(7), -9);
            due("fault", house.fault(), 7);
            Checks.feed(house, "wider");
            due("law(4)", house.law(4), 1);
            Checks.feed(house, "10");
            due("law(1)", house.law(1), 1);
            due("strain", house.strain(0, 1), 1);
        });
        edge("2 a number that is none such", () -> {
            faulty(FAN, "rivet  0;", NO_SUCH_NUMBER, 7);
            faulty(FAN, "rivet 0", NO_SUCH_NUMBER, 6);
            faulty(FAN, "rivet 000", NO_SUCH_NUMBER, 6);
            faulty(WORK, "swap 0 0009", NO_SUCH_NUMBER, 7);
            faulty(LAW, "01000", NO_SUCH_NUMBER, 0);
        });
    }

    private static void tooMany() {
        edge("3 a CLAUSE or STICK too many (at its word)", () -> {
            faulty(FAN, SEVEN + "   stick 9 9 9 9;", TOO_MANY, 101);
            faulty(FAN, SEVEN + "rivet 1;stick", TOO_MANY, 106);
            faulty(FAN, "rivet 1;".repeat(60) + "  paint", TOO_MANY, 482);
            faulty(FAN, "rivet 1;".repeat(60) + "7", CANNOT_STAND, 480);
            faulty(FAN, "rivet 1;".repeat(60) + "rivets 1;", CANNOT_STAND, 480);
            faulty(FAN, SEVEN + "sticks 1;", CANNOT_STAND, 98);
        });
        edge("an 8th M of a PICTURE or line of a BOOK (at its first number)", () -> {
            faulty(PICTURE, "1;1;1;1;1;1;1;  1", TOO_MANY, 16);
            faulty(PICTURE, "1;1;1;1;1;1;1;x", CANNOT_STAND, 14);
            faulty(PICTURE, "1;1;1;1;1;1;1;;", CANNOT_STAND, 14);
            faulty(BOOK, "0 0 1;".repeat(7) + " 0 9 9", TOO_MANY, 43);
            faulty(BOOK, "0 0 1;".repeat(7) + "0", TOO_MANY, 42);
            faulty(BOOK, "0 0 1;".repeat(7) + "x", CANNOT_STAND, 42);
        });
        edge("a 7th of ( least most again that is open at one time", () -> {
            strains("((((((1))))))", 1);
            strains("(((((most[1,2])))))", 2);
            strains("least[least[least[least[least[least[1,2],3],4],5],6],7]", 1);
            strains("most[1,most[2,most[3,most[4,most[5,most[6,7]]]]]]", 7);
            faulty(LAW, "(((((((1)))))))", TOO_MANY, 6);
            faulty(LAW, "((((((least[1,2]))))))", TOO_MANY, 6);
            faulty(LAW, "(((((( most[1,2]))))))", TOO_MANY, 7);
            faulty(LAW, "most[1,most[2,most[3,most[4,most[5,most[6,(7)]]]]]]", TOO_MANY, 42);
            faulty(LAW, "least[most[(((((", TOO_MANY, 15);
            faulty(LAW, "((((((  least[", TOO_MANY, 8);
            faulty(LAW, "((((((  most[", TOO_MANY, 8);
            faulty(LAW, "((((((1*(2", TOO_MANY, 8);
            faulty(LAW, "((((((1/1%(2", TOO_MANY, 10);
            faulty(LAW, "((((((1+(2", TOO_MANY, 8);
            faulty(LAW, "((((((1-1+least[2", TOO_MANY, 10);
            reads(WORK, "again 1[".repeat(6) + "];".repeat(6), 0);
            reads(WORK, "again 1[".repeat(6) + "turn 0;" + "];".repeat(6), 1);
            reads(WORK, "turn 0;turn 1;oil;again 1[oil;" + "again 1[".repeat(5) + "turn 0;" + "];".repeat(6), 3);
            faulty(WORK, "again 1[".repeat(7) + "];".repeat(7), TOO_MANY, 48);
            faulty(WORK, "again 1[".repeat(6) + "  again", TOO_MANY, 50);
        });
        edge("that is open at one time", () -> {
            strains("((((((1))))))+((((((2))))))", 3);
            strains("least[(((((1))))),(((((2)))))]", 1);
            strains("(1)+(1)+(1)+(1)+(1)+(1)+(1)+(1)", 8);
            strains("(1)*(1)*(1)*(1)*(1)*(1)*(1)*(8)", 8);
            strains("1*1*1*1*1*1*1*1*(2)", 2);
            strains("1+1+1+1+1+1+1+1+(2)", 10);
            strains("(((((2*(3))))))", 6);
            strains("(((((2+(3))))))", 5);
            strains("(((((12/2%(4))))))", 2);
            strains("most[1,2]*most[1,2]*most[1,2]+most[1,2]*most[1,2]*most[1,2]+most[1,2]", 18);
            faulty(LAW, "((((((1))))))+(((((((2)))))))", TOO_MANY, 20);
            faulty(LAW, "least[(((((1))))),((((((2))))))]", TOO_MANY, 23);
            reads(WORK, "again 0[".repeat(6) + "];again 0[];" + "];".repeat(5) + "again 0[];again 0[];", 0);
            faulty(WORK, "again 1[];" + "again 1[".repeat(6) + "again 1[", TOO_MANY, 58);
        });
        edge("of one the least", () -> {
            faulty(PICTURE, "1;1;1;1;1;1;1;17;", NO_SUCH_NUMBER, 14);
            faulty(PICTURE, "1;1;1;1;1;1;1;16;", TOO_MANY, 14);
            faulty(OTHER, "1;1;1;1;1;1;1;99", NO_SUCH_NUMBER, 14);
            faulty(BOOK, "0 0 1;".repeat(7) + "4 0 1;", NO_SUCH_NUMBER, 42);
            faulty(BOOK, "0 0 1;".repeat(7) + "3 7 1;", TOO_MANY, 42);
        });
    }
}
