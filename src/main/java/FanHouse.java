import java.util.Arrays;
import java.util.NoSuchElementException;

/** A folding fan told as a text, and what can be asked of it. README.md tells how to use it. */
public final class FanHouse {
    public static final int NONE = -1;

    private static final int STICKS_MOST = 7;
    private static final int HALVES = 4;
    private static final int VIEWS = 4;
    private static final int MARKS = 16;
    /** What a PICTURE tells where any MARK will do. */
    private static final int ANY = 16;
    /** How many of ( least most again may be open at one time. */
    private static final int OPEN_MOST = 6;
    private static final int POTS_MOST = 99;
    private static final int WEAR_MOST = 200;
    private static final int SEASONS_MOST = 400;
    private static final int LAW_BYTES = 150;
    private static final int WORK_BYTES = 150;
    private static final int ROW_BYTES = 60;
    private static final int WORKS_MOST = 16;
    private static final int IMAGES_MOST = 3;
    private static final int LASTS_MOST = 999;

    private static final int CANNOT_STAND = 1;
    private static final int NO_SUCH_NUMBER = 2;
    private static final int TOO_MANY = 3;

    private final Tape tape = new Tape();
    private final Work steps = new Work();
    private final Keep now = new Keep();
    private final Keep[] images = new Keep[IMAGES_MOST];
    private final Fan trial = new Fan();
    private final Ways ways = new Ways();
    private final Fitting fitting = new Fitting();
    private final Years years = new Years();
    private final Picture[] pictures = new Picture[2];
    private Law rule = new Law();
    private Law spareRule = new Law();
    private Picture sparePicture = new Picture();
    private Book lines = new Book();
    private Book spareLines = new Book();
    private int imagesKept;
    private int refusedSteps;
    private int noSuchElements;
    private int illegalArguments;

    public FanHouse() {
        for (int i = 0; i < images.length; i++) {
            images[i] = new Keep();
        }
        for (int i = 0; i < pictures.length; i++) {
            pictures[i] = new Picture();
        }
    }

    public int feed(int a, int b, int c, int d, int e) {
        if (!tape.hasRoom()) {
            return NONE;
        }
        tape.put(a);
        tape.put(b);
        tape.put(c);
        tape.put(d);
        tape.put(e);
        return tape.size;
    }

    public int fan(int n) throws IllegalArgumentException {
        allow(tape.holds(n, Tape.ROOM));
        tape.begin(n);
        trial.readFrom(tape);
        if (tape.finish()) {
            return tape.faultAnswer();
        }
        now.fan.become(trial);
        now.works = 0;
        imagesKept = 0;
        refusedSteps = 0;
        rule.clear();
        pictures[0].size = 0;
        pictures[1].size = 0;
        lines.size = 0;
        return now.fan.sticks;
    }

    public int law(int n) throws IllegalArgumentException {
        allow(tape.holds(n, LAW_BYTES));
        tape.begin(n);
        spareRule.readFrom(tape);
        if (tape.finish()) {
            return tape.faultAnswer();
        }
        Law old = rule;
        rule = spareRule;
        spareRule = old;
        return 1;
    }

    public int work(int n) throws IllegalArgumentException {
        allow(tape.holds(n, WORK_BYTES));
        if (now.works >= WORKS_MOST) {
            tape.begin(0);
            tape.finish();
            return -20;
        }
        tape.begin(n);
        steps.readFrom(tape, now.fan.sticks);
        if (tape.finish()) {
            return tape.faultAnswer();
        }
        now.remember();
        steps.doAll(now.fan, rule);
        refusedSteps = steps.refused;
        return steps.done;
    }

    public int picture(int n, int which) throws IllegalArgumentException {
        allow(tape.holds(n, ROW_BYTES) && isWithin(which, 0, 1));
        tape.begin(n);
        sparePicture.readFrom(tape);
        if (tape.finish()) {
            return tape.faultAnswer();
        }
        Picture old = pictures[which];
        pictures[which] = sparePicture;
        sparePicture = old;
        return pictures[which].size;
    }

    public int book(int n) throws IllegalArgumentException {
        allow(tape.holds(n, ROW_BYTES));
        tape.begin(n);
        spareLines.readFrom(tape);
        if (tape.finish()) {
            return tape.faultAnswer();
        }
        Book old = lines;
        lines = spareLines;
        spareLines = old;
        return lines.size;
    }

    public int fault() {
        return tape.faultPlace;
    }

    public int undo() {
        if (!now.takeBack()) {
            return -1;
        }
        refusedSteps = 0;
        return now.works;
    }

    public int told(int what) throws IllegalArgumentException {
        allow(isWithin(what, 0, 12));
        Fan fan = now.fan;
        switch (what) {
            case 0: return fan.sticks;
            case 1: return fan.rivet;
            case 2: return fan.wear;
            case 3: return fan.pots;
            case 4: return fan.season;
            case 5: return fan.opened;
            case 6: return fan.over;
            case 7: return fan.shownView;
            case 8: return fan.shownWide;
            case 9: return lines.size;
            case 10: return refusedSteps;
            case 11: return pictures[0].size;
            default: return pictures[1].size;
        }
    }

    public int stick(int stick, int what) throws NoSuchElementException, IllegalArgumentException {
        demand(now.fan.isStick(stick));
        allow(isWithin(what, 0, 6));
        switch (what) {
            case 0: return now.fan.placeOf(stick);
            case 1: return now.fan.isOver(stick) ? 1 : 0;
            case 6: return now.fan.twinsOf(stick);
            default: return now.fan.lyingMark(stick, what - 2);
        }
    }

    public int at(int place) throws NoSuchElementException {
        demand(now.fan.isPlace(place));
        return now.fan.stickAt[place];
    }

    public int strain(int view, int n) throws IllegalArgumentException {
        allow(isView(view) && isWithin(n, 1, STICKS_MOST));
        return rule.strainOf(now.fan, view, n);
    }

    public int would(int view, int wide, int wear, int opened, int turned, int pots, int season)
            throws IllegalArgumentException {
        allow(isView(view) && isWithin(wide, 1, STICKS_MOST));
        allow(isWithin(wear, 0, WEAR_MOST) && isWithin(opened, 0, 9999));
        allow(isWithin(turned, 0, STICKS_MOST) && isWithin(pots, 0, POTS_MOST));
        allow(isWithin(season, 0, SEASONS_MOST));
        rule.tellOpening(view, wide);
        rule.tellState(wear, opened, turned, pots, season);
        return rule.strainAsTold();
    }

    public int mark(int view, int k) throws IllegalArgumentException {
        allow(isView(view) && k >= 0);
        return now.fan.markIn(view, k);
    }

    public int seen(int k) throws IllegalArgumentException {
        allow(k >= 0);
        Fan fan = now.fan;
        return fan.isShut() || k >= fan.shownWide ? NONE : fan.markIn(fan.shownView, k);
    }

    public int marks(int view) throws IllegalArgumentException {
        allow(isView(view));
        int bits = 0;
        for (int k = 0; k < now.fan.sticks; k++) {
            bits |= 1 << now.fan.markIn(view, k);
        }
        return bits;
    }

    public boolean shows(int view) throws IllegalArgumentException {
        allow(isView(view));
        return pictures[0].isShownBy(now.fan, view);
    }

    public int lays(int view) throws IllegalArgumentException {
        allow(isView(view));
        return countLays(view);
    }

    public int laid(int view, int place) throws NoSuchElementException, IllegalArgumentException {
        demand(now.fan.isPlace(place));
        allow(isView(view));
        return countLays(view) == 0 ? NONE : ways.firstAt(place);
    }

    public int both(int view, int other) throws IllegalArgumentException {
        allow(isView(view) && isView(other));
        ways.begin(now.fan);
        if (!ways.narrow(view, pictures[0]) || !ways.narrow(other, pictures[1])) {
            return 0;
        }
        return ways.total();
    }

    public int brush(int view) throws IllegalArgumentException {
        allow(isView(view));
        ways.begin(now.fan);
        return ways.narrow(view, pictures[0]) ? ways.fewestHalves() : NONE;
    }

    public int near(int view) throws IllegalArgumentException {
        allow(isView(view));
        return countLays(view) == 0 ? NONE : ways.fewestMoves();
    }

    public int lot(int view, int half) throws IllegalArgumentException {
        allow(isView(view) && isWithin(half, 0, 1));
        int above = countLays(view);
        int below = 1;
        for (int i = 2; i <= now.fan.sticks; i++) {
            below *= i;
        }
        below <<= now.fan.sticks;
        int shared = greatestDivisor(above, below);
        return (half == 0 ? above : below) / Math.max(shared, 1);
    }

    public int off(int view) throws IllegalArgumentException {
        allow(isView(view));
        return pictures[0].unlikeIn(now.fan, view);
    }

    public int run(int view, int what) throws IllegalArgumentException {
        allow(isView(view) && isWithin(what, 0, 1));
        int longest = 0;
        int longestMark = NONE;
        int length = 0;
        for (int k = 0; k < now.fan.sticks; k++) {
            int mark = now.fan.markIn(view, k);
            boolean goesOn = k > 0 && mark == now.fan.markIn(view, k - 1);
            length = goesOn ? length + 1 : 1;
            if (length > longest) {
                longest = length;
                longestMark = mark;
            }
        }
        return what == 0 ? longest : longestMark;
    }

    public int even() {
        int bits = 0;
        for (int view = 0; view < VIEWS; view++) {
            if (now.fan.readsAlike(view)) {
                bits |= 1 << view;
            }
        }
        return bits;
    }

    public int fits(int what) throws IllegalArgumentException {
        allow(isWithin(what, 0, 1));
        fitting.find(now.fan, lines);
        return what == 0 ? fitting.many : fitting.first();
    }

    public int look(int what) throws IllegalArgumentException {
        allow(isWithin(what, 0, 1));
        fitting.find(now.fan, lines);
        fitting.findLook(lines);
        return what == 0 ? fitting.lookWhere : fitting.lookLeft;
    }

    public int ahead(int n, int what) throws IllegalArgumentException {
        allow(isWithin(n, 0, 99) && isWithin(what, 0, 1));
        trial.become(now.fan);
        for (int i = 0; i < n; i++) {
            trial.passSeason();
        }
        return what == 0 ? trial.wear : trial.pots;
    }

    public int lasts(int view) throws IllegalArgumentException {
        allow(isView(view));
        trial.become(now.fan);
        trial.shut();
        int times = 0;
        while (times < LASTS_MOST && trial.open(rule, view, trial.sticks)) {
            trial.shut();
            times++;
        }
        return times;
    }

    public int sellers(int v, int w, int what) throws IllegalArgumentException {
        allow(isWithin(v, 0, 99) && isWithin(w, 0, 99) && isWithin(what, 0, 2));
        int many = 0;
        int first = NONE;
        int together = 0;
        for (int pair = 0; pair < 4; pair++) {
            int one = pair / 2;
            int other = pair % 2;
            if (!rests(v, w, one, other)) {
                continue;
            }
            if (many == 0) {
                first = 10 * one + other;
                together = gain(v, w, one, other) + gain(v, w, other, one);
            }
            many++;
        }
        return what == 0 ? many : what == 1 ? first : together;
    }

    public int year(int seed, int q, int seasons, int what) throws IllegalArgumentException {
        allow(isWithin(q, 0, 16) && isWithin(seasons, 1, 48) && isWithin(what, 0, 3));
        years.live(now.fan, rule, seed, q, seasons);
        switch (what) {
            case 0: return years.openings;
            case 1: return years.fan.wear;
            case 2: return years.fan.pots;
            default: return years.fan.over;
        }
    }

    public int span(int seed, int many, int q, int seasons, int what) throws IllegalArgumentException {
        allow(isWithin(many, 1, 10) && isWithin(q, 0, 16));
        allow(isWithin(seasons, 1, 48) && isWithin(what, 0, 2));
        int fewest = Integer.MAX_VALUE;
        int most = 0;
        int showing = 0;
        for (int i = 0; i < many; i++) {
            years.live(now.fan, rule, seed + i, q, seasons);
            fewest = Math.min(fewest, years.openings);
            most = Math.max(most, years.openings);
            showing += pictures[0].isShownBy(years.fan, 0) ? 1 : 0;
        }
        return what == 0 ? fewest : what == 1 ? most : showing;
    }

    public int image() {
        if (imagesKept >= images.length) {
            return -1;
        }
        images[imagesKept].become(now);
        imagesKept++;
        return imagesKept;
    }

    public int restore() {
        if (imagesKept <= 0) {
            return -1;
        }
        imagesKept--;
        now.become(images[imagesKept]);
        refusedSteps = 0;
        return imagesKept;
    }

    public int status(int what) {
        return what == 0 ? noSuchElements : what == 1 ? illegalArguments : NONE;
    }

    public int count(int what) {
        switch (what) {
            case 0: return imagesKept;
            case 1: return tape.size;
            case 2: return now.works;
            default: return NONE;
        }
    }

    private int countLays(int view) {
        ways.begin(now.fan);
        return ways.narrow(view, pictures[0]) ? ways.total() : 0;
    }

    private void allow(boolean fine) {
        if (!fine) {
            illegalArguments++;
            throw new IllegalArgumentException("an argument is outside what the document allows");
        }
    }

    private void demand(boolean there) {
        if (!there) {
            noSuchElements++;
            throw new NoSuchElementException("there is no such stick or place");
        }
    }

    private static boolean isWithin(int value, int low, int high) {
        return value >= low && value <= high;
    }

    private static boolean isView(int view) {
        return isWithin(view, 0, VIEWS - 1);
    }

    /** What a seller has who asks one thing (0 much, 1 little), while the other one asks the other. */
    private static int gain(int v, int w, int his, int others) {
        if (his == 0) {
            return others == 0 ? v : 0;
        }
        return others == 0 ? w : w / 2;
    }

    private static boolean rests(int v, int w, int one, int other) {
        return gain(v, w, one, other) >= gain(v, w, 1 - one, other)
                && gain(v, w, other, one) >= gain(v, w, 1 - other, one);
    }

    private static int greatestDivisor(int a, int b) {
        int big = b;
        int small = a;
        // Each two rounds halve the number, so 64 rounds are enough for 32 bits.
        for (int i = 0; i < 64 && small != 0; i++) {
            int rest = big % small;
            big = small;
            small = rest;
        }
        return big;
    }

    /** The TAPE, and the reading of a text from its beginning. Behind a FAULT nothing more is read. */
    private static final class Tape {
        static final int ROOM = 600;
        /** More than any number of the texts, so that long rows of digits can't wrap. */
        private static final int BEYOND = 10000;

        private final int[] bytes = new int[ROOM];
        int size;
        private int end;
        private int place;
        private int faultKind;
        int faultPlace = NONE;

        boolean hasRoom() {
            return size + 20 <= ROOM;
        }

        void put(int number) {
            for (int shift = 24; shift >= 0 && size < ROOM; shift -= 8) {
                bytes[size] = number >>> shift & 255;
                size++;
            }
        }

        boolean holds(int n, int most) {
            return n >= 0 && n <= most && n <= size;
        }

        void begin(int n) {
            end = Math.min(n, size);
            place = 0;
            faultKind = 0;
            faultPlace = NONE;
        }

        /** What stands behind the text's end is a FAULT; then the TAPE is empty. Is there a FAULT? */
        boolean finish() {
            if (!isAtEnd()) {
                blame(CANNOT_STAND, place);
            }
            size = 0;
            return faultKind != 0;
        }

        int faultAnswer() {
            return faultKind - 10;
        }

        void blame(int kind, int where) {
            if (faultKind == 0) {
                faultKind = kind;
                faultPlace = where;
            }
        }

        boolean isFaulty() {
            return faultKind != 0;
        }

        /** Goes past blanks: where what comes next begins. */
        int next() {
            while (place < end && bytes[place] == ' ') {
                place++;
            }
            return place;
        }

        boolean isAtEnd() {
            return next() >= end;
        }

        private boolean isFrom(int where, int low, int high) {
            return where < end && bytes[where] >= low && bytes[where] <= high;
        }

        boolean startsWord() {
            return !isFaulty() && isFrom(next(), 'a', 'z');
        }

        boolean startsNumber() {
            return !isFaulty() && isFrom(next(), '0', '9');
        }

        /** Takes the sign, if it comes next. */
        boolean takes(char sign) {
            if (isFaulty() || !isFrom(next(), sign, sign)) {
                return false;
            }
            place++;
            return true;
        }

        void expect(char sign) {
            if (isFaulty()) {
                return;
            }
            int here = next();
            if (isFrom(here, sign, sign)) {
                place++;
            } else {
                blame(CANNOT_STAND, here);
            }
        }

        int number(int low, int high) {
            if (isFaulty()) {
                return low;
            }
            int start = next();
            int value = 0;
            while (place < end && isFrom(place, '0', '9')) {
                value = Math.min(10 * value + bytes[place] - '0', BEYOND);
                place++;
            }
            if (place == start) {
                blame(CANNOT_STAND, start);
            } else if (!isWithin(value, low, high)) {
                blame(NO_SUCH_NUMBER, start);
            }
            return value;
        }

        /** Takes the word, if all the letters that come next are that word. */
        boolean takesWord(String word) {
            if (isFaulty()) {
                return false;
            }
            next();
            int length = word.length();
            for (int i = 0; i < length; i++) {
                char letter = word.charAt(i);
                if (!isFrom(place + i, letter, letter)) {
                    return false;
                }
            }
            if (isFrom(place + length, 'a', 'z')) {
                return false;
            }
            place += length;
            return true;
        }
    }

    /** A FAN with all that WORK changes. */
    private static final class Fan {
        private static final int CLAUSES_MOST = 60;

        int sticks;
        int rivet = 99;
        int wear;
        int pots = 20;
        int season;
        int opened;
        /** STICKS that are turned over, as bits. */
        int over;
        int shownView = NONE;
        int shownWide;
        final int[] stickAt = new int[STICKS_MOST];
        /** Of STICK s what is told as its half h stands at 4 times s and h. */
        private final int[] toldMarks = new int[STICKS_MOST * HALVES];

        void become(Fan other) {
            sticks = other.sticks;
            rivet = other.rivet;
            wear = other.wear;
            pots = other.pots;
            season = other.season;
            opened = other.opened;
            over = other.over;
            shownView = other.shownView;
            shownWide = other.shownWide;
            System.arraycopy(other.stickAt, 0, stickAt, 0, stickAt.length);
            System.arraycopy(other.toldMarks, 0, toldMarks, 0, toldMarks.length);
        }

        void readFrom(Tape tape) {
            clear();
            int clauses = 0;
            // Each clause that is read without a fault is longer than one byte.
            for (int i = 0; i < Tape.ROOM && tape.startsWord(); i++) {
                readClause(tape, clauses >= CLAUSES_MOST);
                tape.expect(';');
                clauses++;
            }
        }

        private void clear() {
            sticks = 0;
            rivet = 99;
            wear = 0;
            pots = 20;
            season = 0;
            opened = 0;
            over = 0;
            shut();
            for (int k = 0; k < stickAt.length; k++) {
                stickAt[k] = k;
            }
        }

        private void readClause(Tape tape, boolean tooMany) {
            int start = tape.next();
            boolean isStick = tape.takesWord("stick");
            boolean isRivet = !isStick && tape.takesWord("rivet");
            boolean isPaint = !isStick && !isRivet && tape.takesWord("paint");
            if (!isStick && !isRivet && !isPaint) {
                tape.blame(CANNOT_STAND, start);
            } else if (tooMany || isStick && sticks >= STICKS_MOST) {
                tape.blame(TOO_MANY, start);
            } else if (isStick) {
                readStick(tape);
            } else if (isRivet) {
                rivet = tape.number(1, WEAR_MOST);
            } else {
                pots = tape.number(0, POTS_MOST);
            }
        }

        private void readStick(Tape tape) {
            for (int half = 0; half < HALVES; half++) {
                setToldMark(sticks, half, tape.number(0, MARKS - 1));
            }
            sticks++;
        }

        private static boolean isHalf(int stick, int half) {
            return stick >= 0 && stick < STICKS_MOST && half >= 0 && half < HALVES;
        }

        private void setToldMark(int stick, int half, int mark) {
            if (isHalf(stick, half)) {
                toldMarks[HALVES * stick + half] = mark;
            }
        }

        int toldMark(int stick, int half) {
            return isHalf(stick, half) ? toldMarks[HALVES * stick + half] : NONE;
        }

        boolean isOver(int stick) {
            return (over >> stick & 1) == 1;
        }

        private int toldHalf(int stick, int half) {
            return isOver(stick) ? HALVES - 1 - half : half;
        }

        int lyingMark(int stick, int half) {
            return toldMark(stick, toldHalf(stick, half));
        }

        int placeOf(int stick) {
            for (int place = 0; place < sticks; place++) {
                if (stickAt[place] == stick) {
                    return place;
                }
            }
            return NONE;
        }

        boolean isPlace(int place) {
            return isWithin(place, 0, sticks - 1);
        }

        boolean isStick(int stick) {
            return isWithin(stick, 0, sticks - 1);
        }

        /** The PLACE from which a VIEW shows its MARK at k. */
        int placeIn(int view, int k) {
            return view < 2 ? k : sticks - 1 - k;
        }

        int markIn(int view, int k) {
            int place = placeIn(view, k);
            return isPlace(place) ? lyingMark(stickAt[place], view) : NONE;
        }

        boolean readsAlike(int view) {
            for (int k = 0; k < sticks / 2; k++) {
                if (markIn(view, k) != markIn(view, sticks - 1 - k)) {
                    return false;
                }
            }
            return true;
        }

        int twinsOf(int stick) {
            int bits = 0;
            for (int other = 0; other < sticks; other++) {
                if (other != stick && liesAlike(stick, other)) {
                    bits |= 1 << other;
                }
            }
            return bits;
        }

        private boolean liesAlike(int stick, int other) {
            for (int half = 0; half < HALVES; half++) {
                if (lyingMark(stick, half) != lyingMark(other, half)) {
                    return false;
                }
            }
            return true;
        }

        boolean isShut() {
            return shownView == NONE;
        }

        // The STEPS: each answers whether it could be done, and changes nothing if not.

        boolean open(Law rule, int view, int wide) {
            if (!isShut() || !isWithin(wide, 1, sticks)) {
                return false;
            }
            int worn = wear + rule.strainOf(this, view, wide);
            if (worn > rivet) {
                return false;
            }
            wear = worn;
            opened++;
            shownView = view;
            shownWide = wide;
            return true;
        }

        boolean shut() {
            if (isShut()) {
                return false;
            }
            shownView = NONE;
            shownWide = 0;
            return true;
        }

        boolean swap(int place, int other) {
            if (!isShut() || place == other || !isPlace(place) || !isPlace(other)) {
                return false;
            }
            int stick = stickAt[place];
            stickAt[place] = stickAt[other];
            stickAt[other] = stick;
            return true;
        }

        boolean turn(int place) {
            if (!isShut() || !isPlace(place)) {
                return false;
            }
            over ^= 1 << stickAt[place];
            return true;
        }

        boolean paint(int place, int half, int mark) {
            if (pots <= 0 || !isPlace(place)) {
                return false;
            }
            int stick = stickAt[place];
            if (lyingMark(stick, half) == mark) {
                return false;
            }
            setToldMark(stick, toldHalf(stick, half), mark);
            pots--;
            return true;
        }

        boolean oil() {
            if (wear == 0) {
                return false;
            }
            wear /= 2;
            return true;
        }

        boolean endSeason() {
            if (season >= SEASONS_MOST) {
                return false;
            }
            passSeason();
            return true;
        }

        /** What a SEASON does, beyond the last one, too. */
        void passSeason() {
            wear = Math.max(wear - 3, 0);
            pots = Math.min(pots + 2, POTS_MOST);
            season++;
        }
    }

    /** A LAW as codes of which each takes what the ones ahead of it have left on a stack. */
    private static final class Law {
        private static final int VIEW = 0;
        private static final int WIDE = 1;
        private static final int WEAR = 2;
        private static final int OPENED = 3;
        private static final int TURNED = 4;
        private static final int POTS = 5;
        private static final int SEASON = 6;
        private static final int FACTS = 7;
        /** The code of fact i is this less i. */
        private static final int FIRST_FACT = -1;
        private static final int PLUS = -11;
        private static final int MINUS = -12;
        private static final int TIMES = -13;
        private static final int BY = -14;
        private static final int LEFT = -15;
        private static final int LEAST = -16;
        private static final int MOST = -17;
        private static final int STRAIN_MOST = 60;

        /** From 0 on numbers, above PLUS facts, from there on down what joins two values. */
        private final int[] codes = new int[LAW_BYTES];
        private final int[] stack = new int[LAW_BYTES];
        private final int[] facts = new int[FACTS];
        private int size = 1;

        Law() {
            codes[0] = FIRST_FACT - WIDE;
        }

        /** The LAW that holds without one. */
        void clear() {
            codes[0] = FIRST_FACT - WIDE;
            size = 1;
        }

        void readFrom(Tape tape) {
            size = 0;
            readSum(tape, 0);
        }

        private void add(int code) {
            if (size < codes.length) {
                codes[size] = code;
                size++;
            }
        }

        private void readSum(Tape tape, int open) {
            readProduct(tape, open);
            for (int i = 0; i < LAW_BYTES; i++) {
                int code = tape.takes('+') ? PLUS : tape.takes('-') ? MINUS : 0;
                if (code == 0) {
                    return;
                }
                readProduct(tape, open);
                add(code);
            }
        }

        private void readProduct(Tape tape, int open) {
            readUnit(tape, open);
            for (int i = 0; i < LAW_BYTES; i++) {
                int code = tape.takes('*') ? TIMES : tape.takes('/') ? BY : tape.takes('%') ? LEFT : 0;
                if (code == 0) {
                    return;
                }
                readUnit(tape, open);
                add(code);
            }
        }

        private void readUnit(Tape tape, int open) {
            int start = tape.next();
            if (tape.startsNumber()) {
                add(tape.number(0, 999));
            } else if (tape.takes('(')) {
                readBracket(tape, open, start);
            } else if (tape.takesWord("least")) {
                readPair(tape, open, start, LEAST);
            } else if (tape.takesWord("most")) {
                readPair(tape, open, start, MOST);
            } else {
                readFact(tape, start);
            }
        }

        private void readBracket(Tape tape, int open, int start) {
            if (open >= OPEN_MOST) {
                tape.blame(TOO_MANY, start);
                return;
            }
            readSum(tape, open + 1);
            tape.expect(')');
        }

        private void readPair(Tape tape, int open, int start, int code) {
            if (open >= OPEN_MOST) {
                tape.blame(TOO_MANY, start);
                return;
            }
            tape.expect('[');
            readSum(tape, open + 1);
            tape.expect(',');
            readSum(tape, open + 1);
            tape.expect(']');
            add(code);
        }

        private void readFact(Tape tape, int start) {
            int fact = tape.takesWord("view") ? VIEW
                    : tape.takesWord("wide") ? WIDE
                    : tape.takesWord("wear") ? WEAR
                    : tape.takesWord("opened") ? OPENED
                    : tape.takesWord("turned") ? TURNED
                    : tape.takesWord("pots") ? POTS
                    : tape.takesWord("season") ? SEASON : NONE;
            if (fact == NONE) {
                tape.blame(CANNOT_STAND, start);
            } else {
                add(FIRST_FACT - fact);
            }
        }

        void tellOpening(int view, int wide) {
            facts[VIEW] = view;
            facts[WIDE] = wide;
        }

        void tellState(int wear, int opened, int turned, int pots, int season) {
            facts[WEAR] = wear;
            facts[OPENED] = opened;
            facts[TURNED] = turned;
            facts[POTS] = pots;
            facts[SEASON] = season;
        }

        int strainOf(Fan fan, int view, int wide) {
            tellOpening(view, wide);
            tellState(fan.wear, fan.opened, Integer.bitCount(fan.over), fan.pots, fan.season);
            return strainAsTold();
        }

        int strainAsTold() {
            int height = 0;
            for (int i = 0; i < size; i++) {
                int code = codes[i];
                boolean joins = code <= PLUS;
                if (joins && height >= 2) {
                    height--;
                    stack[height - 1] = join(code, stack[height - 1], stack[height]);
                } else if (!joins && height < stack.length) {
                    stack[height] = code >= 0 ? code : fact(code);
                    height++;
                }
            }
            return Math.max(0, Math.min(stack[0], STRAIN_MOST));
        }

        private int fact(int code) {
            int i = FIRST_FACT - code;
            return i >= 0 && i < FACTS ? facts[i] : 0;
        }

        private static int join(int code, int a, int b) {
            switch (code) {
                case PLUS: return a + b;
                case MINUS: return a - b;
                case TIMES: return a * b;
                case BY: return b == 0 ? 0 : a / b;
                case LEFT: return b == 0 ? 0 : a % b;
                case LEAST: return Math.min(a, b);
                default: return Math.max(a, b);
            }
        }
    }

    /** The kinds of STEPS: the word, and a letter for each number that comes behind it. */
    private enum Step {
        OPEN("open", "vn"),
        SHUT("shut", ""),
        SWAP("swap", "pp"),
        TURN("turn", "p"),
        PAINT("paint", "phm"),
        OIL("oil", ""),
        SEASON("season", ""),
        AGAIN("again", "t");

        private static final Step[] ALL = values();

        private final String word;
        private final String numbers;

        Step(String word, String numbers) {
            this.word = word;
            this.numbers = numbers;
        }

        static Step takenFrom(Tape tape) {
            for (int i = 0; i < ALL.length; i++) {
                if (tape.takesWord(ALL[i].word)) {
                    return ALL[i];
                }
            }
            return null;
        }
    }

    /** A WORK: its STEPS in a row, those of an again right behind it. */
    private static final class Work {
        private static final int BEGUN_MOST = 200;
        private static final int NUMBERS = 3;

        private final Step[] kinds = new Step[WORK_BYTES];
        private final int[] numbers = new int[WORK_BYTES * NUMBERS];
        /** Where what comes behind the STEP begins, past the STEPS inside it. */
        private final int[] behind = new int[WORK_BYTES];
        private int size;
        private int begun;
        int done;
        int refused;

        void readFrom(Tape tape, int sticks) {
            size = 0;
            readSteps(tape, sticks, 0);
        }

        private void readSteps(Tape tape, int sticks, int open) {
            for (int i = 0; i < WORK_BYTES && tape.startsWord(); i++) {
                readStep(tape, sticks, open);
                tape.expect(';');
            }
        }

        private void readStep(Tape tape, int sticks, int open) {
            int start = tape.next();
            Step kind = Step.takenFrom(tape);
            int here = size;
            if (kind == null || here >= WORK_BYTES) {
                tape.blame(CANNOT_STAND, start);
                return;
            }
            if (kind == Step.AGAIN && open >= OPEN_MOST) {
                tape.blame(TOO_MANY, start);
                return;
            }
            kinds[here] = kind;
            size++;
            for (int i = 0; i < NUMBERS; i++) {
                numbers[NUMBERS * here + i] = i < kind.numbers.length()
                        ? readNumber(tape, kind.numbers.charAt(i), sticks) : 0;
            }
            if (kind == Step.AGAIN) {
                tape.expect('[');
                readSteps(tape, sticks, open + 1);
                tape.expect(']');
            }
            behind[here] = size;
        }

        private static int readNumber(Tape tape, char letter, int sticks) {
            switch (letter) {
                case 'v': return tape.number(0, VIEWS - 1);
                case 'n': return tape.number(1, STICKS_MOST);
                case 'p': return tape.number(0, sticks - 1);
                case 'h': return tape.number(0, HALVES - 1);
                case 'm': return tape.number(0, MARKS - 1);
                default: return tape.number(0, 40);
            }
        }

        void doAll(Fan fan, Law rule) {
            begun = 0;
            done = 0;
            refused = 0;
            doSteps(fan, rule, 0, size, 0);
        }

        private void doSteps(Fan fan, Law rule, int from, int to, int open) {
            int last = Math.min(to, size);
            int i = from;
            for (int n = 0; n < WORK_BYTES && i < last && begun < BEGUN_MOST; n++) {
                begun++;
                if (kinds[i] == Step.AGAIN) {
                    doAgain(fan, rule, i, open);
                } else if (doStep(fan, rule, kinds[i], NUMBERS * i)) {
                    done++;
                } else {
                    refused++;
                }
                i = behind[i];
            }
        }

        private void doAgain(Fan fan, Law rule, int step, int open) {
            if (open >= OPEN_MOST) {
                return;
            }
            int times = numbers[NUMBERS * step];
            for (int n = 0; n < times && begun < BEGUN_MOST; n++) {
                doSteps(fan, rule, step + 1, behind[step], open + 1);
            }
        }

        private boolean doStep(Fan fan, Law rule, Step kind, int at) {
            if (kind == null || !isWithin(at, 0, numbers.length - NUMBERS)) {
                return false;
            }
            int a = numbers[at];
            int b = numbers[at + 1];
            switch (kind) {
                case OPEN: return fan.open(rule, a, b);
                case SHUT: return fan.shut();
                case SWAP: return fan.swap(a, b);
                case TURN: return fan.turn(a);
                case PAINT: return fan.paint(a, b, numbers[at + 2]);
                case OIL: return fan.oil();
                default: return fan.endSeason();
            }
        }
    }

    /** A FAN and how it was ahead of each WORK that can be undone. */
    private static final class Keep {
        final Fan fan = new Fan();
        private final Fan[] before = new Fan[WORKS_MOST];
        int works;

        Keep() {
            for (int i = 0; i < before.length; i++) {
                before[i] = new Fan();
            }
        }

        void become(Keep other) {
            fan.become(other.fan);
            works = other.works;
            for (int i = 0; i < works && i < before.length; i++) {
                before[i].become(other.before[i]);
            }
        }

        void remember() {
            if (works < before.length) {
                before[works].become(fan);
                works++;
            }
        }

        boolean takeBack() {
            if (works <= 0) {
                return false;
            }
            works--;
            fan.become(before[works]);
            return true;
        }
    }

    private static final class Picture {
        private final int[] marks = new int[STICKS_MOST];
        int size;

        void readFrom(Tape tape) {
            size = 0;
            for (int i = 0; i < ROW_BYTES && tape.startsNumber(); i++) {
                int start = tape.next();
                int mark = tape.number(0, ANY);
                if (size >= marks.length) {
                    tape.blame(TOO_MANY, start);
                    return;
                }
                marks[size] = mark;
                size++;
                tape.expect(';');
            }
        }

        /** The MARK told at k; ANY, where none is. */
        int markAt(int k) {
            return k >= 0 && k < size ? marks[k] : ANY;
        }

        boolean isShownBy(Fan fan, int view) {
            return size <= fan.sticks && unlikeIn(fan, view) == 0;
        }

        int unlikeIn(Fan fan, int view) {
            int unlike = 0;
            for (int k = 0; k < fan.sticks; k++) {
                int mark = markAt(k);
                if (mark != ANY && mark != fan.markIn(view, k)) {
                    unlike++;
                }
            }
            return unlike;
        }
    }

    private static final class Book {
        private static final int LINES_MOST = 7;

        private final int[] views = new int[LINES_MOST];
        private final int[] spots = new int[LINES_MOST];
        private final int[] marks = new int[LINES_MOST];
        int size;

        void readFrom(Tape tape) {
            size = 0;
            for (int i = 0; i < ROW_BYTES && tape.startsNumber(); i++) {
                int start = tape.next();
                int view = tape.number(0, VIEWS - 1);
                if (size >= LINES_MOST) {
                    tape.blame(TOO_MANY, start);
                    return;
                }
                views[size] = view;
                spots[size] = tape.number(0, STICKS_MOST - 1);
                marks[size] = tape.number(0, MARKS - 1);
                size++;
                tape.expect(';');
            }
        }

        boolean tellsOf(int view, int k) {
            for (int i = 0; i < size; i++) {
                if (views[i] == view && spots[i] == k) {
                    return true;
                }
            }
            return false;
        }

        boolean isRightFor(Fan fan) {
            for (int i = 0; i < size; i++) {
                if (fan.markIn(views[i], spots[i]) != marks[i]) {
                    return false;
                }
            }
            return true;
        }
    }

    /** The ways to lay the STICKS on the PLACES, counted by sets of STICKS that are laid already. */
    private static final class Ways {
        private static final int AS_TOLD = 1;
        private static final int TURNED_OVER = 2;
        private static final int FAR = 1000;

        private final Fan fan = new Fan();
        private int sticks;
        /** At 7 times the PLACE and the STICK: how it may lie there. */
        private final int[] allowed = new int[STICKS_MOST * STICKS_MOST];
        /** By the set of STICKS that lie on the first PLACES: of the others the ways, or the cost. */
        private final int[] rest = new int[1 << STICKS_MOST];
        private final int[] order = new int[STICKS_MOST];
        private int best;

        void begin(Fan asked) {
            fan.become(asked);
            sticks = asked.sticks;
            Arrays.fill(allowed, AS_TOLD | TURNED_OVER);
        }

        /** Keeps the ways by which the VIEW SHOWS the picture; false, if it is too long for all. */
        boolean narrow(int view, Picture picture) {
            if (picture.size > sticks) {
                return false;
            }
            for (int k = 0; k < picture.size; k++) {
                int place = fan.placeIn(view, k);
                for (int stick = 0; stick < sticks; stick++) {
                    int i = STICKS_MOST * place + stick;
                    if (isWithin(i, 0, allowed.length - 1)) {
                        allowed[i] &= fitting(stick, view, picture.markAt(k));
                    }
                }
            }
            return true;
        }

        private int fitting(int stick, int half, int mark) {
            if (mark == ANY) {
                return AS_TOLD | TURNED_OVER;
            }
            int told = fan.toldMark(stick, half) == mark ? AS_TOLD : 0;
            int turned = fan.toldMark(stick, HALVES - 1 - half) == mark ? TURNED_OVER : 0;
            return told | turned;
        }

        private int allowedAt(int place, int stick) {
            int i = STICKS_MOST * place + stick;
            return isWithin(i, 0, allowed.length - 1) ? allowed[i] : 0;
        }

        int total() {
            int full = (1 << sticks) - 1;
            rest[full] = 1;
            for (int laid = full - 1; laid >= 0; laid--) {
                int place = Integer.bitCount(laid);
                int sum = 0;
                for (int stick = 0; stick < sticks; stick++) {
                    if ((laid >> stick & 1) == 0) {
                        sum += Integer.bitCount(allowedAt(place, stick)) * rest[laid | 1 << stick];
                    }
                }
                rest[laid] = sum;
            }
            return rest[0];
        }

        /** What lies at a PLACE by the first way; total() has to be asked ahead. */
        int firstAt(int place) {
            int laid = 0;
            for (int p = 0; p < place; p++) {
                laid |= 1 << firstStick(laid, p);
            }
            int stick = firstStick(laid, place);
            boolean asTold = (allowedAt(place, stick) & AS_TOLD) != 0;
            return 2 * stick + (asTold ? 0 : 1);
        }

        private int firstStick(int laid, int place) {
            for (int stick = 0; stick < sticks; stick++) {
                boolean free = (laid >> stick & 1) == 0;
                if (free && allowedAt(place, stick) != 0 && rest[laid | 1 << stick] > 0) {
                    return stick;
                }
            }
            return 0;
        }

        /** A half is painted for each STICK that can lie neither way where it is laid. */
        int fewestHalves() {
            int full = (1 << sticks) - 1;
            rest[full] = 0;
            for (int laid = full - 1; laid >= 0; laid--) {
                int place = Integer.bitCount(laid);
                int least = FAR;
                for (int stick = 0; stick < sticks; stick++) {
                    if ((laid >> stick & 1) == 0) {
                        int paint = allowedAt(place, stick) == 0 ? 1 : 0;
                        least = Math.min(least, paint + rest[laid | 1 << stick]);
                    }
                }
                rest[laid] = least;
            }
            return rest[0];
        }

        int fewestMoves() {
            System.arraycopy(fan.stickAt, 0, order, 0, order.length);
            best = FAR;
            search(0, 0);
            return best;
        }

        /** Fills PLACE by PLACE: a swap that brings a STICK where it stays is never one too many. */
        private void search(int place, int moves) {
            if (moves >= best) {
                return;
            }
            if (place >= sticks) {
                best = moves;
                return;
            }
            for (int from = place; from < sticks; from++) {
                int stick = order[from];
                int lies = allowedAt(place, stick);
                if (lies == 0) {
                    continue;
                }
                int asNow = fan.isOver(stick) ? TURNED_OVER : AS_TOLD;
                int turns = (lies & asNow) == 0 ? 1 : 0;
                int swaps = from == place ? 0 : 1;
                order[from] = order[place];
                order[place] = stick;
                search(place + 1, moves + turns + swaps);
                order[place] = order[from];
                order[from] = stick;
            }
        }
    }

    /** FITS: turns told as their PLACE, swaps from SWAP on. Each done twice changes nothing. */
    private static final class Fitting {
        private static final int SWAP = 100;
        private static final int ROOM = 28;

        private final Fan fan = new Fan();
        private final int[] found = new int[ROOM];
        private final int[] tally = new int[MARKS];
        int many;
        int lookWhere;
        int lookLeft;

        void find(Fan now, Book book) {
            fan.become(now);
            fan.shut();
            many = 0;
            for (int place = 0; place < fan.sticks; place++) {
                keepIfRight(place, book);
            }
            for (int place = 0; place < fan.sticks; place++) {
                for (int other = place + 1; other < fan.sticks; other++) {
                    keepIfRight(SWAP + 10 * place + other, book);
                }
            }
        }

        int first() {
            return many > 0 ? found[0] : NONE;
        }

        private void keepIfRight(int change, Book book) {
            make(change);
            boolean right = book.isRightFor(fan);
            make(change);
            if (right && many < found.length) {
                found[many] = change;
                many++;
            }
        }

        private void make(int change) {
            if (change < SWAP) {
                fan.turn(change);
            } else {
                fan.swap((change - SWAP) / 10, change % 10);
            }
        }

        void findLook(Book book) {
            lookWhere = NONE;
            lookLeft = NONE;
            for (int view = 0; view < VIEWS; view++) {
                for (int k = 0; k < fan.sticks; k++) {
                    if (book.tellsOf(view, k)) {
                        continue;
                    }
                    int worst = leftAtWorst(view, k);
                    if (lookWhere == NONE || worst < lookLeft) {
                        lookWhere = 10 * view + k;
                        lookLeft = worst;
                    }
                }
            }
        }

        private int leftAtWorst(int view, int k) {
            Arrays.fill(tally, 0);
            int worst = 0;
            for (int i = 0; i < many; i++) {
                make(found[i]);
                int mark = fan.markIn(view, k);
                make(found[i]);
                if (isWithin(mark, 0, tally.length - 1)) {
                    tally[mark]++;
                    worst = Math.max(worst, tally[mark]);
                }
            }
            return worst;
        }
    }

    /** A YEAR by a SEED, on a FAN of its own. */
    private static final class Years {
        final Fan fan = new Fan();
        int openings;
        private int seed;

        void live(Fan now, Law rule, int firstSeed, int q, int seasons) {
            fan.become(now);
            seed = firstSeed;
            for (int season = 0; season < seasons; season++) {
                for (int i = 0; i < 4; i++) {
                    if (draw(16) < q && fan.sticks > 0) {
                        act(rule);
                    }
                }
                fan.passSeason();
            }
            openings = fan.opened - now.opened;
        }

        private int draw(int by) {
            seed = seed * 1103515245 + 12345;
            return by > 0 ? (seed >>> 16 & 32767) % by : 0;
        }

        private void act(Law rule) {
            switch (draw(6)) {
                case 0: drawOpen(rule); break;
                case 1: fan.shut(); break;
                case 2: drawSwap(); break;
                case 3: fan.turn(draw(fan.sticks)); break;
                case 4: drawPaint(); break;
                default: fan.oil();
            }
        }

        private void drawOpen(Law rule) {
            int view = draw(VIEWS);
            int wide = draw(fan.sticks) + 1;
            fan.open(rule, view, wide);
        }

        private void drawSwap() {
            int place = draw(fan.sticks);
            int other = draw(fan.sticks);
            fan.swap(place, other);
        }

        private void drawPaint() {
            int place = draw(fan.sticks);
            int half = draw(HALVES);
            int mark = draw(MARKS);
            fan.paint(place, half, mark);
        }
    }
}
