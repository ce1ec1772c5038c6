import java.math.BigInteger;

/** The edges that 'Terms' names, sentence by sentence. */
public final class TermsEdgesTest {
    private static final Edges E = new Edges("TermsEdgesTest", "## Terms", "======== 2");
    private static final int NONE = PosterWall.NONE, BAD = PosterWall.BAD, FULL = PosterWall.FULL;
    private static final int NULL = -11, INDEX = -12, CAST = -13, STORE = -14, SIZE = -15;
    private static final int LEAST = Integer.MIN_VALUE, GREATEST = Integer.MAX_VALUE;
    private static final String LONGEST = "000r1abcd;".repeat(7) + "195k9hgfe";
    private static final String EIGHT = "000r1a;000r1b;000r1c;000r1d;000r1e;000r1f;000r1g;000r1h";

    private static void due(String call, long got, long want) {
        E.due(call, got, want);
    }

    private static void dueFault(int text, String bytes, int want) {
        PosterWall x = new PosterWall();
        Check.type(x, text, bytes);
        due("fault of text " + text + ", " + bytes, x.fault(text), want);
    }

    public static void main(String[] args) {
        posters();
        posterBytes();
        rains();
        law();
        fault();
        days();
        tears();
        sticking();
        reading();
        ink();
        obeyed();
        fractions();
        lots();
        sheets();
        findings();
        E.end();
    }

    private static void posters() {
        E.says("POSTERS are a text of up to 79 bytes (text 0),");
        PosterWall longest = Check.wall(LONGEST, "", "");
        due("bytes", longest.count(3), 79);
        due("fault", longest.fault(0), NONE);
        due("posters", longest.count(0), 8);
        PosterWall one = Check.wall(LONGEST.substring(0, 78), "", "");
        due("the 79th byte", one.type(0, 0), 79);
        E.refused("an 80th byte", Edges::full, x -> x.type(0, 'a'), FULL);
        E.refused("an 80th byte of a text with a fault", Edges.made("x".repeat(79), "", ""), x -> x.type(0, 'a'), FULL);

        E.says("8 at most (0 on),");
        PosterWall eight = Check.wall(EIGHT, "", "");
        due("posters", eight.count(0), 8);
        due("letter of poster 0", eight.poster(0, 5), 0);
        due("letter of poster 7", eight.poster(7, 5), 7);
        due("poster 8", eight.poster(8, 5), BAD);
        due("none with a ninth", Check.wall(EIGHT + ";000r1a", "", "").count(0), 0);

        E.says("with ; between them:");
        due("one without", Check.wall("000r1a", "", "").count(0), 1);
        due("two with one", Check.wall("000r1a;000r1b", "", "").count(0), 2);
        dueFault(0, ";000r1a", 0);
        dueFault(0, "000r1a;;000r1b", 7);
        dueFault(0, "000r1a000r1b", 6);
        dueFault(0, "000r1a:000r1b", 6);
        dueFault(0, "000r1a<000r1b", 6);
        dueFault(0, "000r1a;", 7);
    }

    /** The last byte that is well and the first that is not, at a place of a POSTER. */
    private static void dueByte(String ahead, char b, String behind, int want) {
        int fault = want == NONE ? NONE : ahead.length();
        dueFault(0, ahead + b + behind, fault);
        String second = "195k9hhhh;";
        dueFault(0, second + ahead + b + behind, fault == NONE ? NONE : second.length() + fault);
    }

    private static void posterBytes() {
        E.says("a figure 0 or 1 and a figure, the DAY on which it is stuck (00 to 19),");
        for (char b : "01".toCharArray()) dueByte("", b, "00r1a", NONE);
        for (char b : "/2:9 ".toCharArray()) dueByte("", b, "00r1a", 0);
        for (char b : "09".toCharArray()) dueByte("0", b, "0r1a", NONE);
        for (char b : "/:ar".toCharArray()) dueByte("1", b, "0r1a", 0);
        due("00", Check.wall("000r1a", "", "").poster(0, 0), 0);
        due("09", Check.wall("090r1a", "", "").poster(0, 0), 9);
        due("10", Check.wall("100r1a", "", "").poster(0, 0), 10);
        due("19", Check.wall("190r1a", "", "").poster(0, 0), 19);

        E.says("a figure 0 to 5, the COLUMN,");
        for (char b : "05".toCharArray()) dueByte("00", b, "r1a", NONE);
        for (char b : "/6:r".toCharArray()) dueByte("00", b, "r1a", 0);
        due("0", Check.wall("000r1a", "", "").poster(0, 1), 0);
        due("5", Check.wall("005r1a", "", "").poster(0, 1), 5);

        E.says("r (red), y (yellow) or k (black),");
        for (char b : "ryk".toCharArray()) dueByte("000", b, "1a", NONE);
        for (char b : "qsxzjlRYK01".toCharArray()) dueByte("000", b, "1a", 0);
        due("r", Check.wall("000r1a", "", "").poster(0, 2), 0);
        due("y", Check.wall("000y1a", "", "").poster(0, 2), 1);
        due("k", Check.wall("000k1a", "", "").poster(0, 2), 2);

        E.says("a figure, how THICK it is (1 to 9),");
        for (char b : "19".toCharArray()) dueByte("000r", b, "a", NONE);
        for (char b : "0/:a".toCharArray()) dueByte("000r", b, "a", 0);
        due("1", Check.wall("000r1a", "", "").poster(0, 3), 1);
        due("9", Check.wall("000r9a", "", "").poster(0, 3), 9);

        E.says("and 1 to 4 letters a to h (0 to 7), its WORD.");
        for (char b : "ah".toCharArray()) dueByte("000r1", b, "", NONE);
        for (char b : "`iAH0;.".toCharArray()) dueByte("000r1", b, "a", 0);
        for (char b : "`i.0".toCharArray()) dueByte("000r1abc", b, "", 0);
        dueFault(0, "000r1", 5);
        for (int n = 1; n <= 4; n++) due("letters", Check.wall("000r1" + "h".repeat(n), "", "").poster(0, 4), n);
        dueFault(0, "000r1hhhhh", 9);
        PosterWall ends = Check.wall("000r1ahah", "", "");
        due("a", ends.poster(0, 5), 0);
        due("h", ends.poster(0, 8), 7);
    }

    private static void rains() {
        E.says("RAINS are a text of up to 20 figures (text 1),");
        String twenty = "01234567899876543210";
        PosterWall longest = Check.wall("", twenty, "");
        due("rains", longest.count(1), 20);
        due("fault", longest.fault(1), NONE);
        due("the twentieth byte", Check.wall("", twenty.substring(1), "").type(1, '0'), 20);
        E.refused("a 21st figure", Edges::full, x -> x.type(1, '0'), FULL);
        for (String well : new String[] {"0", "9"}) dueFault(1, well, NONE);
        for (String not : new String[] {"/", ":", ".", "a", ";", "\0", "\u00ff"}) dueFault(1, not, 0);
        dueFault(1, twenty.substring(0, 19) + "/", 19);
        dueFault(1, twenty.substring(0, 19) + ":", 19);

        E.says("one for each DAY (0 on);");
        for (int day = 0; day < 20; day++) due("rain " + day, longest.rain(day), twenty.charAt(day) - '0');

        E.says("0 on later ones.");
        PosterWall some = Check.wall("", "9".repeat(19), "");
        due("the last told", some.rain(18), 9);
        due("the one later", some.rain(19), 0);
        for (int day = 0; day < 20; day++) due("without rains", new PosterWall().rain(day), 0);
    }

    private static void law() {
        E.says("THE LAW is a text of up to 6 bytes (text 2), one for each COLUMN (0 on):");
        PosterWall longest = Check.wall("", "", "hgfedc");
        due("bytes", longest.count(5), 6);
        for (int column = 0; column < 6; column++) due("law " + column, longest.law(column), 7 - column);
        due("the sixth byte", Check.wall("", "", "hgfed").type(2, '.'), 6);
        E.refused("a seventh byte", Edges::full, x -> x.type(2, 'a'), FULL);

        E.says("a letter a to h,");
        for (String well : new String[] {"a", "h", "abcdeh"}) dueFault(2, well, NONE);
        for (String not : new String[] {"`", "i", "A", "H", "0", "\0", "\u00e1"}) dueFault(2, not, 0);
        dueFault(2, ".....i", 5);
        dueFault(2, ".....`", 5);

        E.says("or . (whatever; so on later ones).");
        PosterWall points = Check.wall("", "", ".a.");
        int[] want = {NONE, 0, NONE, NONE, NONE, NONE};
        for (int column = 0; column < 6; column++) due("law " + column, points.law(column), want[column]);
        for (int column = 0; column < 6; column++) due("without a law", new PosterWall().law(column), NONE);
        dueFault(2, "......", NONE);
        dueFault(2, "-", 0);
        dueFault(2, "/", 0);
    }

    private static void fault() {
        E.says("The FAULT of a text is the place of the first byte with which it cannot go on");
        dueFault(0, "x", 0);
        dueFault(0, "0x0x", 1);
        dueFault(0, "000r1a;000r0a;000r0a", 11);
        dueFault(1, "1x2y", 1);
        dueFault(2, "a?b?", 1);
        dueFault(0, LONGEST.substring(0, 78) + "i", 78);
        PosterWall stays = Check.wall("0x", "", "");
        stays.type(0, '0');
        due("whatever comes behind it", stays.fault(0), 1);

        E.says("(an empty one is well;");
        PosterWall emptied = Check.wall("0", "x", "y");
        due("undone", emptied.undo(0), 0);
        due("wiped", emptied.wipe(1), 1);
        due("undone", emptied.undo(2), 0);
        for (int text = 0; text < 3; text++) {
            due("of a new one", new PosterWall().fault(text), NONE);
            due("of an emptied one", emptied.fault(text), NONE);
        }

        E.says("of one that is not ended, its end),");
        for (int n = 1; n <= 5; n++) dueFault(0, "195k9".substring(0, n), n);
        for (int n = 0; n <= 5; n++) dueFault(0, "000r1abcd;" + "195k9".substring(0, n), 10 + n);
        dueFault(0, LONGEST.substring(0, 75), 75);
        // Eight posters of 78 bytes and a ; behind them: the greatest end that there is.
        dueFault(0, LONGEST.substring(0, 78) + ";", 79);
        for (int n = 1; n <= 20; n++) dueFault(1, "9".repeat(n), NONE);
        for (int n = 1; n <= 6; n++) dueFault(2, ".".repeat(n), NONE);

        E.says("here also of a fifth letter of a WORD,");
        dueFault(0, "000r1abcd", NONE);
        dueFault(0, "000r1abcde", 9);
        dueFault(0, "000r1a;195k9aaaaa", 16);
        dueFault(0, EIGHT + "ghh", NONE);
        dueFault(0, EIGHT + "ghha", 58);

        E.says("of the first byte of a ninth POSTER.");
        dueFault(0, EIGHT, NONE);
        dueFault(0, EIGHT + ";", 56);
        dueFault(0, EIGHT + ";0", 56);
        dueFault(0, EIGHT + ";000r1a", 56);
        dueFault(0, EIGHT + ";x", 56);
        dueFault(0, EIGHT + ";;", 56);

        E.says("With a FAULT a text is as if it was empty.");
        PosterWall x = Check.wall("000k1a;00", "99x", "a!");
        for (int what = 0; what < 3; what++) due("count " + what, x.count(what), 0);
        due("poster", x.poster(0, 0), BAD);
        due("rain", x.rain(0), 0);
        due("law", x.law(0), NONE);
        due("layers", x.at(0, 0, 3), 0);
        due("often", x.often(), NONE);
        due("bytes of posters are still there", x.wipe(0), 9);
        due("bytes of rains are still there", x.undo(1), 2);
        due("and are well", x.rain(1), 9);
        due("bytes of the law are still there", x.undo(2), 1);
        due("and are well", x.law(0), 0);
        PosterWall one = Check.wall("000k1a", "9x", "a");
        due("other texts are as told", one.count(0) * 10 + one.count(2), 11);
    }

    private static void days() {
        E.says("DAYS are 0 to 19.");
        PosterWall x = Check.wall("000k1a;191k1b", "1", "a");
        due("rain of 0", x.rain(0), 1);
        due("rain of 19", x.rain(19), 0);
        due("at 0", x.at(0, 0, 0), 0);
        due("at 19", x.at(19, 1, 0), 1);
        due("obeyed on 0", x.obeyed(0), 1);
        due("obeyed on 19", x.obeyed(19), 0);
        E.outside("rain", 0, 19, Edges::some, (y, n) -> y.rain(n), BAD);
        E.outside("at", 0, 19, Edges::some, (y, n) -> y.at(n, 0, 0), BAD);
        E.outside("obeyed", 0, 19, Edges::some, (y, n) -> y.obeyed(n), BAD);

        E.says("TEARS, 8 at most (0 on): on a DAY at a COLUMN.");
        PosterWall eight = new PosterWall();
        for (int i = 1; i <= 8; i++) due("tear", eight.tear(i == 1 ? 0 : 19, i == 1 ? 0 : 5), i);
        due("the eighth is bit 7, the first bit 0", eight.never(), 255);
        E.refused("a ninth", Edges::full, y -> y.tear(0, 0), FULL);
        E.outside("a tear's day", 0, 19, Edges::some, (y, n) -> y.tear(n, 0), BAD);
        E.outside("a tear's column", 0, 5, Edges::some, (y, n) -> y.tear(0, n), BAD);
    }

    private static void dueLayers(PosterWall x, int day, int column, int layers, int top) {
        due("layers on " + day + " at " + column, x.at(day, column, 3), layers);
        due("the top on " + day + " at " + column, x.at(day, column, 1), top);
    }

    private static void tears() {
        E.says("On each DAY first, for each of its TEARS, as told, what lies on top at the COLUMN, if anything, is gone"
            + " from there.");
        PosterWall x = Check.wall("000k9aa;000k9bb;000k9cc;050k9d", "", "");
        x.tear(5, 0);
        dueLayers(x, 4, 0, 3, 2);
        dueLayers(x, 5, 0, 3, 3);
        dueLayers(x, 5, 1, 3, 2);
        x.tear(5, 0);
        dueLayers(x, 5, 0, 2, 3);
        x.tear(6, 0);
        dueLayers(x, 5, 0, 2, 3);
        dueLayers(x, 6, 0, 1, 0);
        x.tear(4, 0);
        dueLayers(x, 4, 0, 2, 1);
        dueLayers(x, 5, 0, 1, 3);
        dueLayers(x, 6, 0, 0, NONE);
        dueLayers(x, 19, 1, 3, 2);
        PosterWall none = Check.wall("000k9a;050k9b", "", "");
        for (int i = 0; i < 6; i++) none.tear(i == 5 ? 0 : 4, i == 4 ? 5 : 0);
        dueLayers(none, 0, 0, 1, 0);
        dueLayers(none, 4, 0, 0, NONE);
        dueLayers(none, 4, 5, 0, NONE);
        dueLayers(none, 5, 0, 1, 1);
        PosterWall last = Check.wall("005k9a;195k9b", "", "");
        last.tear(19, 5);
        dueLayers(last, 18, 5, 1, 0);
        dueLayers(last, 19, 5, 1, 1);
    }

    private static void sticking() {
        E.says("Then POSTERS of that DAY, as told, are stuck: the first letter on its COLUMN, the next ones on the next, as"
            + " far as there are COLUMNS;");
        PosterWall order = Check.wall("190k9a;000k9b;190k9c;000k9d", "", "");
        dueLayers(order, 0, 0, 2, 3);
        dueLayers(order, 18, 0, 2, 3);
        dueLayers(order, 19, 0, 4, 2);
        for (int column = 0; column < 6; column++) {
            PosterWall x = Check.wall("00" + column + "k9hgfe", "", "");
            for (int c = 0; c < 6; c++) {
                int letter = c >= column && c < column + 4 ? 7 - (c - column) : NONE;
                due("of column " + column + ", at " + c, x.at(0, c, 0), letter);
                due("layers", x.at(0, c, 3), letter == NONE ? 0 : 1);
            }
            due("all its letters", x.poster(0, 4), 4);
        }
        PosterWall eight = Check.wall("005k9hhhh;".repeat(7) + "005k9aaaa", "", "");
        dueLayers(eight, 0, 5, 8, 7);
        dueLayers(eight, 0, 0, 0, NONE);

        E.says("each LAYER so has INK 9.");
        for (String colour : new String[] {"r", "y", "k"}) {
            PosterWall x = Check.wall("002" + colour + "1abcd;192" + colour + "9h", "", "");
            for (int c = 2; c < 6; c++) due("ink at " + c, x.at(0, c, 5), 9);
            due("of a later one", x.at(19, 2, 5), 9);
        }
    }

    private static void dueRead(PosterWall x, int day, int letter, int above) {
        due("read on " + day, x.at(day, 0, 0), letter);
        due("above it on " + day, x.at(day, 0, 2), above);
    }

    private static void reading() {
        E.says("Then it is READ: at each COLUMN the top LAYER;");
        PosterWall dry = Check.wall("000k1abcd;001k1h", "", "");
        int[] want = {0, 7, 2, 3, NONE, NONE};
        for (int c = 0; c < 6; c++) due("read at " + c, dry.at(0, c, 0), want[c]);

        E.says("but as long as the RAIN that is left is no less than THICK of the LAYER's POSTER,");
        for (int thick = 1; thick <= 9; thick++) {
            for (int rain = 0; rain <= 9; rain++) {
                PosterWall x = Check.wall("000k5a;000k" + thick + "b", "" + rain, "");
                dueRead(x, 0, rain >= thick ? 0 : 1, rain >= thick ? 1 : 0);
                PosterWall firstOnTop = Check.wall("010k" + thick + "b;000k5a", "0" + rain, "");
                dueRead(firstOnTop, 1, rain >= thick ? 0 : 1, rain >= thick ? 1 : 0);
            }
        }

        E.says("and there is a LAYER below it,");
        dueRead(Check.wall("000k1a", "9", ""), 0, 0, 0);
        dueRead(Check.wall("000k1a;000k1b", "9", ""), 0, 0, 1);
        PosterWall none = Check.wall("001k1a", "9", "");
        dueRead(none, 0, NONE, 0);
        PosterWall torn = Check.wall("000k1a;000k1b", "99", "");
        torn.tear(1, 0);
        dueRead(torn, 1, 0, 0);

        E.says("the RAIN left is less by that, and it is the one below.");
        PosterWall three = Check.wall("000k9a;000k3b;000k4c", "3467890", "");
        int[] letters = {2, 1, 1, 0, 0, 0, 2};
        for (int day = 0; day < letters.length; day++) dueRead(three, day, letters[day], 2 - letters[day]);
        PosterWall thin = Check.wall("000k1a;000k1b;000k1c;000k1d;000k1e;000k1f;000k1g;000k1h", "9876543210", "");
        for (int day = 0; day < 10; day++) dueRead(thin, day, Math.max(0, day - 2), Math.min(7, 9 - day));
    }

    private static void dueInk(String posters, String rains, int column, int... inks) {
        PosterWall x = Check.wall(posters, rains, "");
        for (int day = 0; day < inks.length; day++) due("ink on " + day + " of " + posters, x.at(day, column, 5), inks[day]);
    }

    private static void ink() {
        E.says("What is READ is its letter, if it has INK, else nothing.");
        PosterWall black = Check.wall("000k1a;001k1h", "", "");
        due("a with ink 1", black.at(8, 0, 5) * 100 + black.at(8, 0, 0), 100);
        due("h with ink 1", black.at(8, 1, 5) * 100 + black.at(8, 1, 0), 107);
        due("ink 0", black.at(9, 0, 5), 0);
        due("nothing", black.at(9, 0, 0), NONE);
        due("it is looked at", black.at(9, 0, 1), 0);
        PosterWall wet = Check.wall("000r1a;040k1b", "00009", "");
        due("not what lies on it either", wet.at(4, 0, 0), NONE);

        E.says("Then, on a DAY without RAIN (0), the top LAYER of each COLUMN loses INK: a red one 3, a yellow one 2, a black"
            + " one 1, or what there is.");
        dueInk("000r1a", "", 0, 9, 6, 3, 0, 0, 0);
        dueInk("000y1a", "", 0, 9, 7, 5, 3, 1, 0, 0);
        dueInk("000k1a", "", 0, 9, 8, 7, 6, 5, 4, 3, 2, 1, 0, 0);
        dueInk("000r1a", "1", 0, 9, 9, 6, 3, 0, 0);
        dueInk("000y1a", "10909", 0, 9, 9, 7, 7, 5, 5, 3);
        dueInk("005r1a", "", 5, 9, 6, 3, 0);
        dueInk("000r1abcd", "", 3, 9, 6, 3, 0);
        // What lies below loses none, though it is looked at, and though the top has none left.
        dueInk("000r1a;000k1b", "101", 0, 9, 9, 9);
        dueInk("000k1a;000r1b", "000000000000000000", 0, 9, 6, 3, 0, 0);
        PosterWall below = Check.wall("000k1a;000r1b", "00000000000000000009", "");
        due("the one below on the last day", below.at(19, 0, 5), 9);
        PosterWall torn = Check.wall("000r1a;010y1b", "", "");
        torn.tear(3, 0);
        int[] inks = {9, 9, 7, 6, 3, 0, 0};
        for (int day = 0; day < inks.length; day++) due("ink on " + day, torn.at(day, 0, 5), inks[day]);
    }

    private static void obeyed() {
        E.says("THE LAW is OBEYED on a DAY, if it has a letter,");
        String[] without = {"", ".", "......"};
        for (String law : without) {
            due("without a letter", Check.wall("000k1a", "", law).days(0), 0);
            due("without a letter, on an empty wall", Check.wall("", "", law).days(0), 0);
        }
        due("with one", Check.wall("000k1a", "", "a").obeyed(0), 1);
        due("with one at the last column", Check.wall("005k1a", "", ".....a").obeyed(0), 1);

        E.says("and at each COLUMN for which it has one that is READ.");
        String both = "000k1abcd;004k1ef";
        due("all six", Check.wall(both, "", "abcdef").obeyed(0), 1);
        for (int c = 0; c < 6; c++) {
            StringBuilder law = new StringBuilder("abcdef");
            law.setCharAt(c, 'h');
            due("but one", Check.wall(both, "", law.toString()).obeyed(0), 0);
            law.setCharAt(c, '.');
            due("whatever there", Check.wall(both, "", law.toString()).obeyed(0), 1);
        }
        due("nothing is read there", Check.wall("000k1a", "", "aa").obeyed(0), 0);
        PosterWall bleached = Check.wall("000r1a", "", "a");
        due("with ink", bleached.obeyed(2), 1);
        due("without ink", bleached.obeyed(3), 0);
    }

    private static void dueChance(PosterWall x, int c, int last, int day, long above, long below) {
        due("above", x.shower(c, last, day, 0), above);
        due("below", x.shower(c, last, day, 1), below);
    }

    private static void fractions() {
        E.says("FRACTIONS are told in lowest terms, above and below (0 by 1).");
        PosterWall day0 = Check.wall("000k2a;000k2b", "2", "a");
        dueChance(day0, 0, 0, 0, 0, 1);
        dueChance(day0, 0, 9, 19, 0, 1);
        dueChance(day0, 1, 0, 0, 1, 16);
        dueChance(day0, 2, 0, 0, 1, 8);
        dueChance(day0, 6, 0, 0, 3, 8);
        dueChance(day0, 8, 9, 19, 1, 2);
        dueChance(day0, 12, 0, 0, 3, 4);
        dueChance(day0, 15, 0, 0, 15, 16);
        dueChance(day0, 16, 0, 0, 1, 1);
        dueChance(day0, 16, 9, 19, 1, 1);
        // Not on any of ten days by fifteen sixteenths each: 16^10 - 15^10 by 16^10, which is odd by even.
        BigInteger below = BigInteger.valueOf(16).pow(10);
        BigInteger above = below.subtract(BigInteger.valueOf(15).pow(10));
        dueChance(Check.wall("000k2a;000k2b", "2222222222", "a"), 1, 9, 19, above.longValueExact(), below.longValueExact());
        dueChance(new PosterWall(), 16, 9, 19, 0, 1);
    }

    /** The n-th RAIN of a SEASON, by the thickest top through which one looks on that DAY. */
    private static int rainOf(int seed, int n) {
        int rain = 0;
        for (int thick = 1; thick <= 9; thick++) {
            PosterWall x = Check.wall("000k1a;000k" + thick + "b", "", "a");
            rain += x.season(seed, n, 0) - x.season(seed, n - 1, 0);
        }
        return rain;
    }

    private static BigInteger next(BigInteger seed) {
        return seed.multiply(BigInteger.valueOf(1103515245)).add(BigInteger.valueOf(12345)).mod(BigInteger.ONE.shiftLeft(32));
    }

    private static int upper(BigInteger seed) {
        return seed.shiftRight(16).intValueExact();
    }

    private static void lots() {
        int[] seeds = {0, 1, -1, 7, LEAST, GREATEST, LEAST + 1, 1 << 16, -12345, 123456789};
        E.says("LOTS of m: SEED becomes 1103515245 SEED and 12345, as ints that wrap;");
        for (int seed : seeds) {
            BigInteger s = BigInteger.valueOf(seed);
            for (int n = 1; n <= 20; n++) {
                s = next(s);
                due("lot " + n + " of seed " + seed, rainOf(seed, n), upper(s) % 10);
            }
        }

        E.says("its upper 16 bits as a number from 0 on, modulo m.");
        // 1 becomes 41c67ea6, of which 41c6 is 16838; -1 becomes be39e1cc, of which be39 is 48697.
        due("a first bit 0", rainOf(1, 1), 16838 % 10);
        due("a first bit 1 is no sign", rainOf(-1, 1), 48697 % 10);
        int signs = 0;
        for (int seed : seeds) signs |= 1 << (upper(next(BigInteger.valueOf(seed))) >>> 15);
        due("both were tried", signs, 3);
    }

    private static void sheets() {
        E.says("SHEETS 0 .. 3 are LOST (at first) or a row of a FORM:");
        for (int s = 0; s < 4; s++) {
            int which = s;
            E.refused("a new object's sheet " + s, PosterWall::new, x -> x.lose(which), NULL);
            due("a row", new PosterWall().sheet(s, 0, 1), 1);
        }
        E.outside("a sheet", 0, 3, Edges::some, (x, n) -> x.lose(n), BAD);

        E.says("0 bytes, 1 shorts, 2 ints,");
        int[] greatest = {127, 32767, GREATEST};
        for (int form = 0; form < 3; form++) {
            PosterWall x = new PosterWall();
            x.sheet(0, form, 2);
            x.lay(0, form, 0, greatest[form]);
            x.lay(0, form, 1, greatest[form] + 1);
            due("the greatest", x.get(0, form, 0), greatest[form]);
            due("one more wraps to the least", x.get(0, form, 1), -greatest[form] - 1);
        }
        E.outside("a form", 0, 2, Edges::some, (x, n) -> x.sheet(0, n, 1), BAD);

        E.says("of 0 to 60 items (0 at first).");
        for (int form = 0; form < 3; form++) {
            PosterWall x = new PosterWall();
            due("none", x.sheet(0, form, 0), 0);
            due("no item 0", x.lay(0, form, 0, 1), INDEX);
            due("sixty", x.sheet(0, form, 60), 60);
            for (int i = 0; i < 60; i++) due("item " + i, x.get(0, form, i), 0);
            for (int i = 0; i < 60; i++) x.lay(0, form, i, 99);
            due("no item 60", x.lay(0, form, 60, 1), INDEX);
            x.sheet(0, form, 60);
            due("0 again, the first", x.get(0, form, 0), 0);
            due("0 again, the last", x.get(0, form, 59), 0);
        }
        E.refused("61", Edges::some, x -> x.sheet(0, 0, 61), BAD);
        E.refused("-1", Edges::some, x -> x.sheet(0, 0, -1), SIZE);
    }

    private static void findings() {
        E.says("FINDINGS (answers -10 less the number; they change nothing but count() 8):");
        PosterWall x = Edges.some();
        due("none yet", x.count(8), 0);
        long ahead = x.digest();
        int[] answers = {x.lose(3), x.lay(0, 0, 3, 1), x.lay(0, 1, 0, 1), x.copy(0, 0, 1, 0, 1), x.sheet(0, 0, -1)};
        for (int number = 1; number <= 5; number++) due("finding " + number, answers[number - 1], -10 - number);
        due("the latest", x.count(8), 5);
        due("digest", x.digest(), ahead);

        E.says("1 NULL: the SHEET is LOST;");
        E.refused("lose", Edges::some, y -> y.lose(3), NULL);
        E.refused("read", Edges::some, y -> y.read(3), NULL);
        E.refused("write", Edges::some, y -> y.write(0, 3), NULL);
        E.refused("lay", Edges::some, y -> y.lay(3, 0, 0, 1), NULL);
        E.refused("get", Edges::some, y -> y.get(3, 0, 0), LEAST, 1);
        E.refused("copy from", Edges::some, y -> y.copy(3, 0, 0, 0, 1), NULL);
        E.refused("copy to", Edges::some, y -> y.copy(0, 0, 3, 0, 1), NULL);

        E.says("2 INDEX: there is no such item;");
        E.outside("lay", 0, 2, Edges::some, (y, n) -> y.lay(0, 0, n, 1), INDEX);
        for (int i : new int[] {-1, 3, 59, 60, LEAST, GREATEST}) {
            E.refused("get of " + i, Edges::some, y -> y.get(0, 0, i), LEAST, 2);
        }
        E.refused("copy", Edges::some, y -> y.copy(0, 1, 0, 0, 3), INDEX);

        E.says("3 CAST: it has another FORM;");
        for (int s = 0; s < 3; s++) {
            for (int form = 0; form < 3; form++) {
                int which = s;
                int as = form;
                if (form == s) continue;
                E.refused("lay", Edges::some, y -> y.lay(which, as, 0, 1), CAST);
                E.refused("get", Edges::some, y -> y.get(which, as, 0), LEAST, 3);
            }
        }

        E.says("4 STORE: unlike FORMS;");
        for (int s = 0; s < 3; s++) {
            for (int t = 0; t < 3; t++) {
                int from = s;
                int to = t;
                if (t != s) E.refused("copy", Edges::some, y -> y.copy(from, 0, to, 0, 1), STORE);
                else due("like ones", Edges.some().copy(s, 0, t, 0, 1), 1);
            }
        }

        E.says("5 SIZE: below 0.");
        due("0", Edges.some().sheet(0, 0, 0), 0);
        E.refused("-1", Edges::some, y -> y.sheet(0, 0, -1), SIZE);
        E.refused("the least", Edges::some, y -> y.sheet(3, 2, LEAST), SIZE);
    }
}
