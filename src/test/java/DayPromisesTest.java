/** Promises 12 to 16: days. */
public final class DayPromisesTest {
    private static final Check CHECK = new Check("DayPromisesTest");
    private static final int NONE = PosterWall.NONE, BAD = PosterWall.BAD;

    private static void due(String call, long got, long want) {
        CHECK.due(call, got, want);
    }

    public static void main(String[] args) {
        at();
        rainAndThick();
        order();
        ink();
        torn();
        changes();
        obeyed();
        days();
        unread();
        often();
        CHECK.end();
    }

    private static void dueAt(PosterWall wall, int day, int column, int... want) {
        for (int what = 0; what < 6; what++) {
            due("at(" + day + ", " + column + ", " + what + ")", wall.at(day, column, what), want[what]);
        }
    }

    private static void at() {
        CHECK.promise("12");
        PosterWall wall = Check.wall("000r2ab;010k3c;010y1de;194k9hhhh", "0052", "");
        dueAt(wall, 0, 0, 0, 0, 0, 1, 2, 9);
        dueAt(wall, 0, 1, 1, 0, 0, 1, 2, 9);
        dueAt(wall, 0, 2, NONE, NONE, 0, 0, 0, 0);
        dueAt(wall, 1, 0, 3, 2, 0, 3, 6, 9);
        dueAt(wall, 1, 1, 4, 2, 0, 2, 3, 9);
        dueAt(wall, 2, 0, 0, 0, 2, 3, 6, 6);
        dueAt(wall, 2, 1, 1, 0, 1, 2, 3, 6);
        dueAt(wall, 3, 0, 2, 1, 1, 3, 6, 9);
        dueAt(wall, 3, 1, 1, 0, 1, 2, 3, 6);
        dueAt(wall, 4, 0, 3, 2, 0, 3, 6, 7);
        dueAt(wall, 5, 0, 3, 2, 0, 3, 6, 5);
        dueAt(wall, 7, 0, 3, 2, 0, 3, 6, 1);
        dueAt(wall, 8, 0, NONE, 2, 0, 3, 6, 0);
        dueAt(wall, 18, 4, NONE, NONE, 0, 0, 0, 0);
        dueAt(wall, 19, 4, 7, 3, 0, 1, 9, 9);
        dueAt(wall, 19, 5, 7, 3, 0, 1, 9, 9);
        int[][] bad = {{-1, 0, 0}, {20, 0, 0}, {0, -1, 0}, {0, 6, 0}, {0, 0, -1}, {0, 0, 6},
            {Integer.MAX_VALUE, Integer.MAX_VALUE, Integer.MAX_VALUE}, {Integer.MIN_VALUE, 0, 0}};
        for (int[] b : bad) due("at", wall.at(b[0], b[1], b[2]), BAD);
    }

    private static void rainAndThick() {
        // Through the top one only where the rain is no less than its thickness; never through the lowest.
        PosterWall wall = Check.wall("000k1a;000k3b;000k4c", "3467879", "");
        int[] letters = {2, 1, 1, 0, 0, 0, 0};
        for (int day = 0; day < 7; day++) {
            due("read on " + day, wall.at(day, 0, 0), letters[day]);
            due("above on " + day, wall.at(day, 0, 2), 2 - letters[day]);
        }
        PosterWall nine = Check.wall("000k9a;000k9b", "89", "");
        due("nine hides from eight", nine.at(0, 0, 0), 1);
        due("not from nine", nine.at(1, 0, 0), 0);
        PosterWall one = Check.wall("000k1a", "9", "");
        dueAt(one, 0, 0, 0, 0, 0, 1, 1, 9);
    }

    private static void order() {
        PosterWall wall = Check.wall("030k1a;010k2b;030k3c;020k4d", "", "");
        due("by day", wall.at(1, 0, 1), 1);
        due("by day", wall.at(2, 0, 1), 3);
        due("as told on one day", wall.at(3, 0, 1), 2);
        due("thick", wall.at(3, 0, 4), 10);
        PosterWall eight = Check.wall("000k9a;000k9b;000k9c;000k9d;000k9e;000k9f;000k9g;000k9h", "", "");
        dueAt(eight, 0, 0, 7, 7, 0, 8, 72, 9);
        PosterWall edge = Check.wall("003k1abcd", "", "");
        due("the first letter", edge.at(0, 3, 0), 0);
        due("the third one", edge.at(0, 5, 0), 2);
        due("not on other columns", edge.at(0, 0, 3) + edge.at(0, 2, 3), 0);
    }

    private static void ink() {
        int[][] inks = {{9, 6, 3, 0, 0, 0, 0, 0, 0, 0, 0}, {9, 7, 5, 3, 1, 0, 0, 0, 0, 0, 0},
            {9, 8, 7, 6, 5, 4, 3, 2, 1, 0, 0}};
        for (int colour = 0; colour < 3; colour++) {
            PosterWall dry = Check.wall("000" + "ryk".charAt(colour) + "1h", "", "");
            PosterWall wet = Check.wall("000" + "ryk".charAt(colour) + "1h", "10101", "");
            for (int day = 0; day < 11; day++) {
                due("ink", dry.at(day, 0, 5), inks[colour][day]);
                due("read", dry.at(day, 0, 0), inks[colour][day] > 0 ? 7 : NONE);
                due("of which poster", dry.at(day, 0, 1), 0);
            }
            due("no loss in rain", wet.at(1, 0, 5), 9);
            due("loss without", wet.at(2, 0, 5), inks[colour][1]);
            due("two losses", wet.at(4, 0, 5), inks[colour][2]);
        }
        PosterWall under = Check.wall("000r1a;000k1b", "00001", "");
        dueAt(under, 4, 0, 0, 0, 1, 2, 2, 9);
    }

    private static void torn() {
        PosterWall wall = Check.wall("000r9ab;010k9cd", "", "");
        wall.tear(3, 0);
        dueAt(wall, 2, 0, 2, 1, 0, 2, 18, 8);
        dueAt(wall, 3, 0, 0, 0, 0, 1, 9, 6);
        dueAt(wall, 4, 0, 0, 0, 0, 1, 9, 3);
        dueAt(wall, 5, 0, NONE, 0, 0, 1, 9, 0);
        dueAt(wall, 3, 1, 3, 1, 0, 2, 18, 7);
        wall.tear(3, 0);
        wall.tear(3, 0);
        dueAt(wall, 3, 0, NONE, NONE, 0, 0, 0, 0);
        dueAt(wall, 3, 1, 3, 1, 0, 2, 18, 7);
    }

    /** What was answered ahead of a change is not answered behind it. */
    private static void changes() {
        PosterWall wall = Check.wall("000k9a", "", "a");
        dueAt(wall, 3, 0, 0, 0, 0, 1, 9, 6);
        wall.type(0, 'b');
        dueAt(wall, 3, 1, 1, 0, 0, 1, 9, 6);
        wall.type(1, '1');
        dueAt(wall, 3, 0, 0, 0, 0, 1, 9, 7);
        wall.undo(1);
        dueAt(wall, 3, 0, 0, 0, 0, 1, 9, 6);
        wall.tear(3, 0);
        dueAt(wall, 3, 0, NONE, NONE, 0, 0, 0, 0);
        wall.back();
        dueAt(wall, 3, 0, 0, 0, 0, 1, 9, 6);
        wall.sheet(0, 0, 2);
        wall.read(0);
        wall.lay(0, 0, 0, 2);
        wall.read(0);
        dueAt(wall, 3, 0, NONE, NONE, 0, 0, 0, 0);
        wall.wipe(0);
        dueAt(wall, 3, 1, NONE, NONE, 0, 0, 0, 0);
        due("obeyed", wall.obeyed(0), 0);
        Check.type(wall, 0, "000k9a");
        due("obeyed", wall.obeyed(0), 1);
        wall.type(2, 'b');
        due("obeyed", wall.obeyed(0), 0);
    }

    private static void obeyed() {
        CHECK.promise("13");
        PosterWall wall = Check.wall("000r1ab;031k1c", "", "ab");
        int[] want = {1, 1, 1, 0, 0};
        for (int day = 0; day < 5; day++) due("obeyed", wall.obeyed(day), want[day]);
        due("no letter", Check.wall("000r1ab", "", "").obeyed(0), 0);
        due("but points", Check.wall("000r1ab", "", "......").obeyed(0), 0);
        due("a column left out", Check.wall("000r1ab", "", ".b").obeyed(0), 1);
        due("one column not so", Check.wall("000r1ab", "", "abc").obeyed(0), 0);
        due("another letter", Check.wall("000r1ab", "", "ba").obeyed(0), 0);
        due("a faulty law", Check.wall("000r1ab", "", "abx").obeyed(0), 0);
        due("by rain", Check.wall("000r1a;000k5b", "5", "a").obeyed(0), 1);
        due("the last column", Check.wall("005r1a", "", ".....a").obeyed(0), 1);
        due("the last day", Check.wall("195r1a", "", ".....a").obeyed(19), 1);
        due("-1", wall.obeyed(-1), BAD);
        due("20", wall.obeyed(20), BAD);
    }

    private static void days() {
        CHECK.promise("14");
        PosterWall wall = Check.wall("040y1a", "", "a");
        due("on how many", wall.days(0), 5);
        due("the first", wall.days(1), 4);
        PosterWall never = Check.wall("040y1a", "", "b");
        due("on none", never.days(0), 0);
        due("no first", never.days(1), NONE);
        PosterWall always = Check.wall("000y1a", "11111111111111111111", "a");
        due("on all", always.days(0), 20);
        due("the first", always.days(1), 0);
        PosterWall last = Check.wall("190y1a", "", "a");
        due("on the last alone", last.days(0) * 100 + last.days(1), 119);
        due("-1", wall.days(-1), BAD);
        due("2", wall.days(2), BAD);
    }

    private static void unread() {
        CHECK.promise("15");
        due("covered at once", Check.wall("000r1a;000k9b", "", "").unread(), 1);
        due("seen on a day of rain", Check.wall("000r1a;000k9b", "9", "").unread(), 0);
        due("seen through always", Check.wall("000r1a;000k9b", "99999999999999999999", "").unread(), 2);
        due("covered in part", Check.wall("000r1aa;000k9b", "", "").unread(), 0);
        due("three", Check.wall("000r1a;100k9b;100k9c;190k9d;190k1e", "", "").unread(), 2 + 8);
        due("no posters", new PosterWall().unread(), 0);
        due("each in rain, but the last", Check.wall("000r9a;000k9b;190k9c", "90000000000000000009", "").unread(), 4);
        PosterWall torn = Check.wall("000k9a;000k9b", "", "");
        due("never", torn.unread(), 1);
        torn.tear(19, 0);
        due("when the top is torn", torn.unread(), 0);
        due("a lower one in rain, the middle one never", Check.wall("000r1a;000k1b;050k1c", "99999", "").unread(), 2);
    }

    private static void often() {
        CHECK.promise("16");
        due("none", new PosterWall().often(), NONE);
        due("the one", Check.wall("190r1a", "", "").often(), 0);
        due("black is read longer", Check.wall("000r1a;001k1b", "", "").often(), 1);
        due("of like ones the least", Check.wall("000r1a;001r1b", "", "").often(), 0);
        due("of like ones the least", Check.wall("190r1a;000r1b;001y1a;001y1b;005y1c", "", "").often(), 3);
        // Days are counted, not columns: red is read on 3 days at 4 columns, yellow on 5 at one.
        due("days, not columns", Check.wall("000r1aaaa;005y1b", "", "").often(), 1);
        // A poster that is looked at without ink is not read.
        due("without ink", Check.wall("000r1a;101y1b", "", "").often(), 1);
        due("faulty", Check.wall("000r1a;", "", "").often(), NONE);
    }
}
