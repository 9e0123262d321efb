import java.io.IOException;
import java.nio.file.Files;
import java.nio.file.Path;

/** README.md shows calls with their answers: each is done, in its order, and has to answer that. */
public final class ReadmeTest {
    private final FanHouse house = new FanHouse();
    private final String page;
    private int shown = 0;
    private int at = 0;

    private ReadmeTest(String page) {
        this.page = page;
    }

    public static void main(String[] args) throws IOException {
        ReadmeTest test = new ReadmeTest(Files.readString(Path.of("README.md")));
        test.reads();
        test.asks();
        test.undoes();
        test.isWrong();
        int calls = test.page.split("\\nhouse\\.\\w+\\(", -1).length - 1;
        Checks.due("calls that the page shows and this test does", test.shown, calls);
        Checks.end("ReadmeTest");
    }

    /** The page has the call, behind the ones ahead of it, and tells what it answers on the same line. */
    private String told(String call) {
        shown++;
        int from = page.indexOf("\n" + call + ";", at);
        Checks.due("README.md shows " + call, from >= 0);
        if (from < 0) {
            return "";
        }
        at = from + 1;
        int end = page.indexOf('\n', at);
        String line = page.substring(at, end < 0 ? page.length() : end);
        int remark = line.lastIndexOf("// ");
        return remark < 0 ? "" : line.substring(remark + 3).split(":")[0].trim();
    }

    private void answers(String call, int got) {
        String told = told(call);
        Checks.due("README.md: " + call + " answers " + got + ", it tells " + told, told.equals("" + got));
    }

    private static int feed(FanHouse house, String text) {
        for (int i = 0; i < text.length(); i += 20) {
            int[] five = new int[5];
            for (int k = 0; k < 20; k++) {
                int one = i + k < text.length() ? text.charAt(i + k) : 0;
                five[k / 4] = five[k / 4] << 8 | one;
            }
            house.feed(five[0], five[1], five[2], five[3], five[4]);
        }
        return text.length();
    }

    private static String fed(String name, String text, String more) {
        return "house." + name + "(feed(house, \"" + text + "\")" + more + ")";
    }

    private void reads() {
        String fan = "stick 1 2 3 4; stick 1 1 5 5; stick 2 1 4 3; rivet 20;";
        answers(fed("fan", fan, ""), house.fan(feed(house, fan)));
        String law = "wide + opened";
        answers(fed("law", law, ""), house.law(feed(house, law)));
        String work = "turn 0; open 0 3; shut; again 2 [ swap 0 1; oil; ]; shut;";
        answers(fed("work", work, ""), house.work(feed(house, work)));
        answers(fed("picture", "1;16;4;", ", 0"), house.picture(feed(house, "1;16;4;"), 0));
        String book = "0 0 1; 2 0 4;";
        answers(fed("book", book, ""), house.book(feed(house, book)));
    }

    private void asks() {
        answers("house.told(10)", house.told(10));
        answers("house.stick(0, 1)", house.stick(0, 1));
        answers("house.at(2)", house.at(2));
        answers("house.strain(0, 3)", house.strain(0, 3));
        answers("house.mark(2, 0)", house.mark(2, 0));
        answers("house.seen(0)", house.seen(0));
        answers("house.lays(0)", house.lays(0));
        answers("house.laid(0, 0)", house.laid(0, 0));
        answers("house.near(0)", house.near(0));
        answers("house.lot(0, 0)", house.lot(0, 0));
        answers("house.lot(0, 1)", house.lot(0, 1));
        answers("house.fits(0)", house.fits(0));
        answers("house.look(0)", house.look(0));
        answers("house.year(1, 8, 12, 2)", house.year(1, 8, 12, 2));
    }

    private void undoes() {
        answers("house.image()", house.image());
        answers("house.undo()", house.undo());
        answers("house.told(6)", house.told(6));
        answers("house.restore()", house.restore());
        answers("house.told(6)", house.told(6));
    }

    private void isWrong() {
        answers(fed("law", "wide + ;", ""), house.law(feed(house, "wide + ;")));
        answers("house.fault()", house.fault());
        Checks.illegal("house.told(13)", () -> house.told(13));
        Checks.due("what README.md tells of told(13)", told("house.told(13)").equals("IllegalArgumentException"));
        answers("house.status(1)", house.status(1));
        Checks.missing("house.at(3)", () -> house.at(3));
        Checks.due("what README.md tells of at(3)", told("house.at(3)").equals("NoSuchElementException"));
        answers("house.status(0)", house.status(0));
    }
}
