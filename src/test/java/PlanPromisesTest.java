/** Promises 17 to 20: plans. */
public final class PlanPromisesTest {
    private static final Check CHECK = new Check("PlanPromisesTest");
    private static final int NONE = PosterWall.NONE, BAD = PosterWall.BAD;

    private static void due(String call, long got, long want) {
        CHECK.due(call, got, want);
    }

    public static void main(String[] args) {
        rip();
        wet();
        paste();
        stick();
        leaveNoTrace();
        CHECK.end();
    }

    private static void dueRip(PosterWall wall, int day, int count, int first, int second) {
        due("rip(" + day + ", NONE)", wall.rip(day, NONE), count);
        due("rip(" + day + ", 0)", wall.rip(day, 0), first);
        due("rip(" + day + ", 1)", wall.rip(day, 1), second);
    }

    private static void rip() {
        CHECK.promise("17");
        String three = "000k9a;010k9b;020k9c";
        dueRip(Check.wall(three, "", "c"), 3, 0, NONE, NONE);
        dueRip(Check.wall(three, "", "b"), 3, 1, 0, NONE);
        dueRip(Check.wall(three, "", "a"), 3, 2, 0, 0);
        dueRip(Check.wall(three, "", "d"), 3, NONE, NONE, NONE);
        dueRip(Check.wall(three, "", ""), 3, NONE, NONE, NONE);
        dueRip(Check.wall(three + ";030k9d", "", "a"), 4, NONE, NONE, NONE);
        dueRip(Check.wall("001k9abcd;011k9efgh", "", "..be"), 2, NONE, NONE, NONE);
        dueRip(Check.wall("001k9abcd;011k9efgh", "", "..b.d"), 2, 2, 2, 4);
        dueRip(Check.wall("001k9abcd;011k9efgh", "", ".ebgh"), 2, 1, 2, NONE);
        // What is covered keeps its ink; what is not loses it.
        dueRip(Check.wall("005k9a;015k9b", "", ".....a"), 19, 1, 5, NONE);
        dueRip(Check.wall("005r9a;035k9b", "", ".....a"), 19, NONE, NONE, NONE);
        // What is stuck on the day comes behind the tears of the day.
        dueRip(Check.wall(three, "", "a"), 1, NONE, NONE, NONE);
        dueRip(Check.wall(three, "", "a"), 0, 0, NONE, NONE);
        dueRip(Check.wall("000k9a;010k9b;020k1c", "001", "a"), 2, 1, 0, NONE);
        // Each trial begins with what was there ahead of the day: of which posters, with what ink.
        dueRip(Check.wall("004k9ah;014k9bg;024k9c;035k1f", "0001", "....ag"), 3, 2, 4, 4);
        dueRip(Check.wall("004k9a;004k9b;004k9c;005r9h", "", "....ah"), 1, 2, 4, 4);
        // Behind all others, even when there are eight.
        PosterWall wall = Check.wall(three, "", "a");
        for (int i = 0; i < 8; i++) wall.tear(i < 7 ? 0 : 3, i < 7 ? 5 : 0);
        dueRip(wall, 3, 1, 0, NONE);
        due("tears", wall.count(6), 8);
        wall.back();
        wall.tear(18, 5);
        dueRip(wall, 3, 2, 0, 0);
        due("tears", wall.count(6), 8);
        int[][] bad = {{-1, 0}, {20, 0}, {0, -2}, {0, 2}, {Integer.MAX_VALUE, 0}, {0, Integer.MIN_VALUE}};
        for (int[] b : bad) due("rip", wall.rip(b[0], b[1]), BAD);
    }

    private static void wet() {
        CHECK.promise("18");
        String two = "000k2a;010k3b";
        due("through b", Check.wall(two, "", "a").wet(2), 0b1111111000);
        due("b itself", Check.wall(two, "", "b").wet(2), 0b0000000111);
        due("in place of its own", Check.wall(two, "009", "b").wet(2), 0b0000000111);
        due("by any", Check.wall(two, "", "a").wet(0), 0b1111111111);
        due("by none", Check.wall(two, "", "c").wet(2), 0);
        due("without a law", Check.wall(two, "", "").wet(2), 0);
        due("the middle one", Check.wall(two + ";020k4c", "", "b").wet(2), 0b0001110000);
        due("nine alone", Check.wall("000k9a;000k9b", "", "a").wet(0), 0b1000000000);
        due("at the last column, whatever was tried ahead of it", Check.wall("005r1h", "", ".....h").wet(2), 0b1111111111);
        due("other days stay dry", Check.wall("000r1a", "", "a").wet(3), 0);
        due("other days stay wet", Check.wall("000r1a", "999", "a").wet(3), 0b1111111111);
        PosterWall torn = Check.wall(two, "", "a");
        torn.tear(19, 0);
        due("torn on the day", torn.wet(19), 0b1111111111);
        due("-1", torn.wet(-1), BAD);
        due("20", torn.wet(20), BAD);
    }

    private static void duePaste(PosterWall wall, int poster, int thick, int days) {
        due("paste(" + poster + ", 0)", wall.paste(poster, 0), thick);
        due("paste(" + poster + ", 1)", wall.paste(poster, 1), days);
    }

    private static void paste() {
        CHECK.promise("19");
        PosterWall thin = Check.wall("000k5a;010k5b", "0333", "a");
        duePaste(thin, 1, 1, 4);
        duePaste(thin, 0, 1, 1);
        PosterWall thick = Check.wall("000k5a;010k5b", "0333", "b");
        duePaste(thick, 1, 4, 12);
        duePaste(thick, 0, 1, 12);
        duePaste(Check.wall("000k5a;010k5b", "09", "b"), 1, 1, 9);
        duePaste(Check.wall("000k5a;010k5b", "", "c"), 1, 1, 0);
        duePaste(Check.wall("000k5a;010k5b", "", ""), 1, 1, 0);
        // Eight hides from rain of seven; of eight and nine the least.
        duePaste(Check.wall("000k5a;010k5b", "07", "b"), 1, 8, 10);
        duePaste(Check.wall("000k5a;000k5b", "88888888888888888888", "b"), 1, 9, 20);
        int[][] bad = {{-1, 0}, {2, 0}, {8, 0}, {0, -1}, {0, 2}};
        for (int[] b : bad) due("paste", thin.paste(b[0], b[1]), BAD);
        due("no poster", new PosterWall().paste(0, 0), BAD);
    }

    private static void dueStick(PosterWall wall, int poster, int day, int column, int when) {
        due("stick(" + poster + ", 0)", wall.stick(poster, 0), day);
        due("stick(" + poster + ", 1)", wall.stick(poster, 1), column);
        due("stick(" + poster + ", 2)", wall.stick(poster, 2), when);
    }

    private static void stick() {
        CHECK.promise("20");
        dueStick(Check.wall("055k1ab", "", "ab"), 0, 0, 0, 0);
        dueStick(Check.wall("055k1ab", "", ".....a"), 0, 0, 5, 0);
        dueStick(Check.wall("055k1ab", "", "...ab"), 0, 0, 3, 0);
        dueStick(Check.wall("055k1ab", "", "ba"), 0, NONE, NONE, NONE);
        dueStick(Check.wall("055k1ab", "", ""), 0, NONE, NONE, NONE);
        PosterWall late = Check.wall("000k9a;190k9b", "", "b");
        dueStick(late, 0, 0, 0, 19);
        dueStick(late, 1, 0, 0, 0);
        dueStick(Check.wall("000k9a;000k9b", "", "a"), 1, 0, 1, 0);
        // Wherever it is stuck on day 0, it hides a letter of the law.
        dueStick(Check.wall("000k9aaaa;004k9aa;000k9bbbb", "", "aaaaaa"), 2, 1, 0, 0);
        dueStick(Check.wall("000k1a;191k1b", "", "a.b"), 1, 0, 2, 0);
        dueStick(Check.wall("101k9c;000k1ab", "", "acb"), 1, NONE, NONE, NONE);
        // Red has to be stuck no more than two dry days ahead.
        dueStick(Check.wall("051k9c;000k9a;002r9b", "", "acb"), 2, 3, 2, 5);
        dueStick(Check.wall("191k9c;000r9a;000k9b", "", ".ca"), 1, 17, 2, 19);
        // Of those of one day the one that was told behind is on top, whichever is moved.
        dueStick(Check.wall("190k9a;000k9b", "", "a"), 0, 1, 0, 1);
        PosterWall wall = Check.wall("000k1a", "", "a");
        int[][] bad = {{-1, 0}, {1, 0}, {8, 0}, {0, -1}, {0, 3}};
        for (int[] b : bad) due("stick", wall.stick(b[0], b[1]), BAD);
        due("no poster", new PosterWall().stick(0, 0), BAD);
    }

    /** A plan is only thought of: all stays as it was told. */
    private static void leaveNoTrace() {
        CHECK.promise("17 to 20");
        PosterWall wall = Check.wall("000r2ab;011k3c;102y9dd", "0290", "a.d");
        wall.tear(4, 1);
        int[] ahead = answers(wall);
        for (int day = 0; day < 20; day++) {
            wall.rip(day, 0);
            wall.wet(day);
        }
        for (int poster = 0; poster < 3; poster++) {
            wall.paste(poster, 0);
            wall.stick(poster, 0);
        }
        int[] behind = answers(wall);
        for (int i = 0; i < ahead.length; i++) due("answer " + i, behind[i], ahead[i]);
    }

    private static int[] answers(PosterWall wall) {
        int[] all = new int[20 * 6 + 3 * 9 + 20 + 2];
        int n = 0;
        for (int day = 0; day < 20; day++) for (int c = 0; c < 6; c++) all[n++] = wall.at(day, c, 5) * 10 + wall.at(day, c, 0);
        for (int poster = 0; poster < 3; poster++) for (int what = 0; what < 9; what++) all[n++] = wall.poster(poster, what);
        for (int day = 0; day < 20; day++) all[n++] = wall.rain(day);
        all[n++] = wall.count(6);
        all[n++] = wall.days(0);
        return all;
    }
}
