/** Promises 1 to 11: posters, rains, the law, tears. */
public final class TextPromisesTest {
    private static final Check CHECK = new Check("TextPromisesTest");
    private static final int NONE = PosterWall.NONE, BAD = PosterWall.BAD, NOT = PosterWall.NOT, FULL = PosterWall.FULL;
    private static final String EIGHT = "000r1a;000r1b;000r1c;000r1d;000r1e;000r1f;000r1g;000r1h";

    private static void due(String call, long got, long want) {
        CHECK.due(call, got, want);
    }

    public static void main(String[] args) {
        newObject();
        type();
        wipe();
        undo();
        fault();
        poster();
        rain();
        law();
        tear();
        back();
        read();
        CHECK.end();
    }

    private static void newObject() {
        CHECK.promise("1");
        PosterWall wall = new PosterWall();
        for (int what = 0; what <= 8; what++) due("count " + what, wall.count(what), 0);
        for (int text = 0; text < 3; text++) due("fault", wall.fault(text), NONE);
        for (int day = 0; day < 20; day++) due("rain", wall.rain(day), 0);
        for (int column = 0; column < 6; column++) due("law", wall.law(column), NONE);
        due("poster", wall.poster(0, 0), BAD);
        due("back", wall.back(), NOT);
        for (int s = 0; s < 4; s++) due("lose", wall.lose(s), -11);
        PosterWall other = new PosterWall();
        wall.type(1, '7');
        due("another object's rain", other.rain(0), 0);
        due("constants", NONE * 1000 + BAD * 100 + NOT * 10 + FULL, -1000 - 200 - 30 - 4);
    }

    private static void type() {
        CHECK.promise("2");
        int[] room = {79, 20, 6};
        for (int text = 0; text < 3; text++) {
            PosterWall wall = new PosterWall();
            for (int i = 1; i <= room[text]; i++) due("type", wall.type(text, i == 1 ? 0 : 255), i);
            due("one more", wall.type(text, 'a'), FULL);
            due("a bad byte when it is full", wall.type(text, 256), BAD);
            due("its bytes", wall.count(3 + text), room[text]);
            due("the next text's bytes", wall.count(3 + (text + 1) % 3), 0);
        }
        PosterWall wall = new PosterWall();
        long ahead = wall.digest();
        int[][] bad = {{-1, 'a'}, {3, 'a'}, {0, -1}, {0, 256}, {Integer.MIN_VALUE, 0}, {Integer.MAX_VALUE, 0},
            {1, Integer.MAX_VALUE}, {2, Integer.MIN_VALUE}};
        for (int[] b : bad) due("type", wall.type(b[0], b[1]), BAD);
        due("digest", wall.digest(), ahead);
    }

    private static void wipe() {
        CHECK.promise("3");
        PosterWall wall = Check.wall("000r1ab", "123", "a.b");
        due("a wiped text 1", wall.wipe(1), 3);
        due("it is empty", wall.count(4), 0);
        due("rain", wall.rain(0), 0);
        due("text 0 stays", wall.count(3), 7);
        due("text 2 stays", wall.law(2), 1);
        due("an empty one", wall.wipe(1), 0);
        due("text 0", wall.wipe(0), 7);
        due("no posters", wall.count(0), 0);
        due("nothing to look at", wall.at(0, 0, 1), NONE);
        due("an empty one is well", wall.fault(0), NONE);
        due("text 2", wall.wipe(2), 3);
        due("no law", wall.law(0), NONE);
        Check.type(wall, 1, "x");
        due("fault", wall.fault(1), 0);
        due("a faulty one", wall.wipe(1), 1);
        due("no fault", wall.fault(1), NONE);
        due("-1", wall.wipe(-1), BAD);
        due("3", wall.wipe(3), BAD);
    }

    private static void undo() {
        CHECK.promise("4");
        PosterWall wall = Check.wall("000r1ab", "12", "a.b");
        due("undo", wall.undo(0), 6);
        due("one letter less", wall.poster(0, 4), 1);
        due("undo", wall.undo(0), 5);
        due("not ended", wall.fault(0), 5);
        due("undo", wall.undo(1), 1);
        due("rain", wall.rain(1), 0);
        due("undo", wall.undo(1), 0);
        due("an empty one", wall.undo(1), NOT);
        due("undo", wall.undo(2), 2);
        due("law", wall.law(2), NONE);
        due("-1", wall.undo(-1), BAD);
        due("3", wall.undo(3), BAD);
        PosterWall full = Check.wall("", "", "abcdef");
        full.undo(2);
        due("room again", full.type(2, 'h'), 6);
        due("the byte told last", full.law(5), 7);
    }

    private static void fault() {
        CHECK.promise("5");
        Object[][] posters = {
            {"", NONE}, {"2", 0}, {"/", 0}, {";", 0}, {"0", 1}, {"0x", 1}, {"1:", 1}, {"1/", 1}, {"19", 2}, {"006", 2},
            {"00/", 2}, {"005", 3}, {"005b", 3}, {"005R", 3}, {"005r", 4}, {"005r0", 4}, {"005r:", 4}, {"005r9", 5},
            {"005r9i", 5}, {"005r9`", 5}, {"005r9A", 5}, {"005r9;", 5}, {"005r9a", NONE}, {"195k1h", NONE},
            {"100y5abcd", NONE}, {"000r1ai", 6}, {"000r1a0", 6}, {"000r1abcde", 9}, {"000r1abcdi", 9},
            {"000r1abcd;", 10}, {"000r1a;", 7}, {"000r1a;;", 7}, {"000r1a;2", 7}, {"000r1a;100k9h", NONE},
            {"000r1a;100k9", 12}, {"000r1a;100k0h", 11}, {EIGHT, NONE}, {EIGHT + "bcd", NONE}, {EIGHT + ";", 56},
            {EIGHT + ";0", 56}, {EIGHT + ";x", 56}, {EIGHT + ";000r1a", 56}, {EIGHT + "bcd;0", 59},
            {EIGHT + "i", 55}, {"\0", 0}, {"\u00ff", 0}, {"000r1a\u00e1", 6}};
        for (Object[] p : posters) due("fault of " + p[0], Check.wall((String) p[0], "", "").fault(0), (int) p[1]);
        Object[][] rains = {{"", NONE}, {"01234567890123456789", NONE}, {"01a", 2}, {"/", 0}, {":", 0}, {"9;", 1}};
        for (Object[] r : rains) due("fault of " + r[0], Check.wall("", (String) r[0], "").fault(1), (int) r[1]);
        Object[][] laws = {{"", NONE}, {"abcdef", NONE}, {"......", NONE}, {"a.h", NONE}, {"i", 0}, {"a`", 1}, {"aA", 1},
            {"..-", 2}, {".....0", 5}};
        for (Object[] l : laws) due("fault of " + l[0], Check.wall("", "", (String) l[0]).fault(2), (int) l[1]);
        PosterWall wall = Check.wall("000r1a;x", "9x", "ax");
        for (int what = 0; what < 3; what++) due("as if empty, count " + what, wall.count(what), 0);
        due("as if empty", wall.rain(0), 0);
        due("as if empty", wall.law(0), NONE);
        due("as if empty", wall.at(0, 0, 1), NONE);
        due("as if empty", wall.poster(0, 0), BAD);
        for (int text = 0; text < 3; text++) wall.undo(text);
        wall.undo(0);
        due("well again", wall.count(0) * 100 + wall.count(1) * 10 + wall.count(2), 111);
        due("-1", wall.fault(-1), BAD);
        due("3", wall.fault(3), BAD);
    }

    private static void poster() {
        CHECK.promise("6");
        PosterWall wall = Check.wall("000r1a;195y9hgfe;103k5bc;072r4ddd", "", "");
        int[][] want = {{0, 0, 0, 1, 1, 0, -1, -1, -1}, {19, 5, 1, 9, 4, 7, 6, 5, 4}, {10, 3, 2, 5, 2, 1, 2, -1, -1},
            {7, 2, 0, 4, 3, 3, 3, 3, -1}};
        for (int p = 0; p < want.length; p++) {
            for (int what = 0; what < 9; what++) due("poster " + p + " " + what, wall.poster(p, what), want[p][what]);
        }
        int[][] bad = {{-1, 0}, {4, 0}, {8, 0}, {0, -1}, {0, 9}, {Integer.MAX_VALUE, 0}, {0, Integer.MIN_VALUE}};
        for (int[] b : bad) due("poster", wall.poster(b[0], b[1]), BAD);
        PosterWall shorter = Check.wall("000r1abcd", "", "");
        shorter.wipe(0);
        Check.type(shorter, 0, "000r1h");
        due("letters of a shorter word", shorter.poster(0, 4), 1);
        due("none of the old one", shorter.poster(0, 6), NONE);
        PosterWall eight = Check.wall(EIGHT, "", "");
        due("the eighth", eight.poster(7, 5), 7);
    }

    private static void rain() {
        CHECK.promise("7");
        PosterWall wall = Check.wall("", "90817263549081726354", "");
        for (int day = 0; day < 20; day++) due("rain", wall.rain(day), "90817263549081726354".charAt(day) - '0');
        for (int i = 0; i < 17; i++) wall.undo(1);
        due("a told one", wall.rain(2), 8);
        due("a later one", wall.rain(3), 0);
        due("the last", wall.rain(19), 0);
        due("-1", wall.rain(-1), BAD);
        due("20", wall.rain(20), BAD);
    }

    private static void law() {
        CHECK.promise("8");
        PosterWall wall = Check.wall("", "", "a.h.b");
        int[] want = {0, NONE, 7, NONE, 1, NONE};
        for (int column = 0; column < 6; column++) due("law", wall.law(column), want[column]);
        due("-1", wall.law(-1), BAD);
        due("6", wall.law(6), BAD);
    }

    private static void tear() {
        CHECK.promise("9");
        PosterWall wall = Check.wall("000k9a;010k9b;020k9c", "", "");
        due("a tear", wall.tear(5, 0), 1);
        due("c ahead of it", wall.at(4, 0, 0), 2);
        due("b behind it", wall.at(5, 0, 0), 1);
        due("a tear ahead of those told", wall.tear(3, 0), 2);
        due("b", wall.at(3, 0, 0), 1);
        due("a", wall.at(5, 0, 0), 0);
        due("where nothing lies", wall.tear(0, 5), 3);
        due("the same again", wall.tear(5, 0), 4);
        due("nothing", wall.at(5, 0, 3), 0);
        for (int i = 5; i <= 8; i++) due("tear", wall.tear(19, 5), i);
        due("a ninth", wall.tear(0, 0), FULL);
        due("a bad one when it is full", wall.tear(20, 0), BAD);
        due("how many", wall.count(6), 8);
        int[][] bad = {{-1, 0}, {20, 0}, {0, -1}, {0, 6}, {Integer.MAX_VALUE, 0}, {0, Integer.MIN_VALUE}};
        PosterWall other = new PosterWall();
        for (int[] b : bad) due("tear", other.tear(b[0], b[1]), BAD);
        due("none", other.count(6), 0);
        PosterWall sameDay = Check.wall("000k9a;050k9b", "", "");
        sameDay.tear(5, 0);
        due("what was there, ahead of the poster of that day", sameDay.at(5, 0, 3), 1);
        due("the poster of that day", sameDay.at(5, 0, 1), 1);
    }

    private static void back() {
        CHECK.promise("10");
        PosterWall wall = Check.wall("000k9a;000k9b", "", "");
        due("none", wall.back(), NOT);
        wall.tear(1, 0);
        wall.tear(2, 0);
        due("the last is undone", wall.back(), 1);
        due("the first stands", wall.at(2, 0, 0), 0);
        due("back", wall.back(), 0);
        due("as ahead of them", wall.at(2, 0, 0), 1);
        due("none", wall.back(), NOT);
    }

    private static void read() {
        CHECK.promise("11");
        for (int form = 0; form < 3; form++) {
            PosterWall wall = Check.wall("000k9a;010k9b;020k9c", "", "");
            wall.sheet(2, form, 5);
            int[] items = {5, 0, 6, 0, 7};
            for (int i = 0; i < 5; i++) wall.lay(2, form, i, items[i]);
            due("two whole ones", wall.read(2), 2);
            due("tears", wall.count(6), 2);
            due("b", wall.at(5, 0, 0), 1);
            due("a", wall.at(6, 0, 0), 0);
            due("a", wall.at(7, 0, 0), 0);
            due("two more behind them", wall.read(2), 2);
            due("tears", wall.count(6), 4);
        }
        int[][] stops = {{20, 0}, {0, 6}, {-1, 0}, {0, -1}};
        for (int[] stop : stops) {
            PosterWall wall = new PosterWall();
            wall.sheet(0, 2, 6);
            wall.lay(0, 2, 2, stop[0]);
            wall.lay(0, 2, 3, stop[1]);
            due("as long as each may be", wall.read(0), 1);
            due("tears", wall.count(6), 1);
        }
        PosterWall wall = new PosterWall();
        wall.sheet(3, 0, 4);
        due("all of them", wall.read(3), 2);
        due("back", wall.back() + wall.back(), 1);
        wall.sheet(3, 0, 60);
        due("as long as there is room", wall.read(3), 8);
        due("no room", wall.read(3), 0);
        due("tears", wall.count(6), 8);
        wall.sheet(3, 0, 1);
        due("no whole one", wall.read(3), 0);
        wall.sheet(3, 0, 0);
        due("no item", wall.read(3), 0);
        due("-1", wall.read(-1), BAD);
        due("4", wall.read(4), BAD);
        due("no finding yet", wall.count(8), 0);
        due("a lost one", wall.read(0), -11);
        due("the finding", wall.count(8), 1);
    }
}
