/** Promises 21 to 27: seen, showers, seasons. */
public final class SeenPromisesTest {
    private static final Check CHECK = new Check("SeenPromisesTest");
    private static final int BAD = PosterWall.BAD, FULL = PosterWall.FULL;
    private static final int ALL_THICKS = 1022, ALL_YEARS = 1048575;

    private static void due(String call, long got, long want) {
        CHECK.due(call, got, want);
    }

    public static void main(String[] args) {
        seen();
        forget();
        never();
        thicks();
        years();
        ask();
        shower();
        showerEdges();
        season();
        CHECK.end();
    }

    private static void seen() {
        CHECK.promise("21");
        PosterWall wall = new PosterWall();
        int[][] bad = {{-1, 0, 0}, {20, 0, 0}, {0, -1, 0}, {0, 6, 0}, {0, 0, -1}, {0, 0, 9}};
        for (int[] b : bad) due("seen", wall.seen(b[0], b[1], b[2]), BAD);
        due("none", wall.count(7), 0);
        due("the least", wall.seen(0, 0, 0), 1);
        due("the greatest", wall.seen(19, 5, 8), 2);
        for (int i = 3; i <= 8; i++) due("seen", wall.seen(0, 0, 8), i);
        due("a ninth", wall.seen(0, 0, 8), FULL);
        due("a bad one when it is full", wall.seen(0, 0, 9), BAD);
        due("how many", wall.count(7), 8);
    }

    private static void forget() {
        CHECK.promise("22");
        PosterWall wall = Check.wall("000k9a", "", "");
        due("none", wall.forget(), 0);
        wall.seen(0, 0, 5);
        wall.seen(0, 0, 6);
        due("by no thickness", wall.was(0, 0), 0);
        due("both", wall.forget(), 2);
        due("how many", wall.count(7), 0);
        due("by each", wall.was(0, 0), ALL_THICKS);
        due("room again", wall.seen(0, 0, 0), 1);
    }

    private static void never() {
        CHECK.promise("23");
        due("no tears", new PosterWall().never(), 0);
        PosterWall wall = Check.wall("000k9a;010k9b", "", "");
        wall.tear(2, 0);
        wall.tear(2, 0);
        due("nothing seen", wall.never(), 3);
        wall.seen(3, 0, 0);
        due("either of two was not", wall.never(), 3);
        wall.forget();
        wall.seen(3, 0, 8);
        due("both were", wall.never(), 0);
        wall.forget();
        wall.seen(3, 0, 1);
        due("one alone is not enough", wall.never(), 0);
        wall.back();
        due("this one", wall.never(), 1);
        wall.tear(3, 0);
        wall.tear(9, 5);
        due("b on the third day by neither", wall.never(), 0);
        wall.forget();
        wall.seen(2, 0, 1);
        due("the first", wall.never(), 1);
        wall.forget();
        wall.seen(2, 0, 0);
        due("the others", wall.never(), 6);
        wall.seen(4, 0, 0);
        due("the second alone", wall.never(), 2);
        wall.type(1, '0');
        due("tears stay", wall.at(3, 0, 3), 0);
        PosterWall columns = Check.wall("002k9ab;002k9cd", "", "");
        columns.tear(4, 2);
        columns.tear(4, 3);
        columns.seen(6, 2, 0);
        due("a torn one at one column, the other at none", columns.never(), 2);
        columns.seen(6, 3, 3);
        due("d at the other", columns.never(), 2);
        columns.seen(6, 2, 2);
        due("not a and c", columns.never(), 0);
        columns.type(1, '0');
        due("the last tear stays", columns.at(4, 3, 3), 1);
    }

    private static void thicks() {
        CHECK.promise("24");
        PosterWall wall = Check.wall("000k9a;010k5b", "00444", "");
        due("all", wall.was(1, 0), ALL_THICKS);
        wall.seen(2, 0, 0);
        due("no more than the rain", wall.was(1, 0), 0b11110);
        due("the lowest may have any", wall.was(0, 0), 0);
        wall.forget();
        wall.seen(2, 0, 1);
        due("more than the rain", wall.was(1, 0), 0b1111100000);
        due("as it is", wall.was(0, 0), ALL_THICKS);
        wall.seen(3, 0, 0);
        due("not both", wall.was(1, 0), 0);
        wall.forget();
        wall.seen(2, 0, 8);
        due("nothing was not read", wall.was(1, 0), 0);
        due("its own stays", wall.poster(1, 3), 5);
        int[][] bad = {{-1, 0}, {2, 0}, {0, -1}, {0, 2}};
        for (int[] b : bad) due("was", wall.was(b[0], b[1]), BAD);
        due("no poster", new PosterWall().was(0, 1), BAD);
    }

    private static void years() {
        PosterWall wall = Check.wall("000k9a;010k5b", "00444", "");
        due("all", wall.was(1, 1), ALL_YEARS);
        wall.seen(5, 0, 1);
        due("up to the day", wall.was(1, 1), 0b111111);
        wall.seen(1, 0, 0);
        due("behind another day", wall.was(1, 1), 0b111100);
        wall.forget();
        wall.seen(19, 0, 1);
        // Black is read for nine days without rain; the days 2 to 4 are wet.
        due("with ink on the last day", wall.was(1, 1), 0b1111_1111_1000_0000_0000);
        wall.forget();
        wall.seen(0, 0, 8);
        due("of the only one of that day", wall.was(0, 1), 0b1111_1111_1111_1111_1110);
        due("of another", wall.was(1, 1), 0);
        due("its own stays", wall.poster(1, 0), 1);
    }

    private static void ask() {
        CHECK.promise("25");
        due("where its word is", Check.wall("003k9a", "", "").ask(0), 3);
        due("a by all years", Check.wall("003k9a", "99999999999999999999", "").ask(0), 0);
        due("19 is less than 20", Check.wall("191y9c;001k9b", "", "").ask(1), 1);
        due("of like ones the least", Check.wall("001k9aa", "", "").ask(0), 1);
        PosterWall wall = Check.wall("000k9a;001k9ab", "", "");
        due("the first", wall.ask(0), 0);
        due("the second", wall.ask(1), 1);
        wall.seen(0, 0, 7);
        due("no years", wall.ask(1), 0);
        // Stuck from day 11 on, black has ink on day 19; so nothing is read at column 0 by 11 years, a by 9.
        // At column 1 c is read by the 16 years by which it lies on b.
        due("11 is less than 16", Check.wall("000k9ab;151y9c", "", "").ask(0), 0);
        // A c of day 19 is read at column 0 by all 20 years; at column 1 nothing by 11.
        due("11 is less than 20", Check.wall("000k9ab;190y9c", "", "").ask(0), 1);
        // Told ahead of b, c lies on it by all years but one.
        due("11 is less than 19", Check.wall("191y9c;001k9bb", "", "").ask(1), 2);
        // In rain b has ink on day 19 by all years up to it: 20 at column 0, where nothing else is.
        // At column 1 the rain goes through b to what lies below it: c by the 10 years behind day 9, else b.
        PosterWall wet = Check.wall("000k1bb;091k1c", "99999999999999999999", "");
        due("in rain", wet.ask(0), 1);
        int[] bad = {-1, 2, 8, Integer.MAX_VALUE};
        for (int b : bad) due("ask", wall.ask(b), BAD);
        due("no poster", new PosterWall().ask(0), BAD);
    }

    private static void dueShower(PosterWall wall, int c, int last, int day, long above, long below) {
        String call = "shower(" + c + ", " + last + ", " + day + ")";
        due(call + " above", wall.shower(c, last, day, 0), above);
        due(call + " below", wall.shower(c, last, day, 1), below);
    }

    private static void shower() {
        CHECK.promise("26");
        PosterWall once = Check.wall("000k2a;000k2b", "3", "a");
        dueShower(once, 4, 0, 0, 1, 4);
        dueShower(once, 3, 0, 0, 3, 16);
        dueShower(once, 0, 0, 0, 0, 1);
        dueShower(once, 16, 0, 0, 1, 1);
        dueShower(once, 4, 9, 19, 1, 4);
        PosterWall twice = Check.wall("000k2a;000k2b", "33", "a");
        dueShower(twice, 4, 1, 1, 7, 16);
        dueShower(twice, 4, 1, 0, 1, 4);
        dueShower(twice, 4, 9, 19, 7, 16);
        // The rain of a later day is not left to chance.
        dueShower(twice, 4, 0, 1, 1, 1);
        dueShower(twice, 0, 0, 1, 1, 1);
        dueShower(twice, 4, 0, 0, 1, 4);
        dueShower(Check.wall("000k2a;000k2b", "1", "a"), 9, 9, 19, 0, 1);
        dueShower(Check.wall("000k1a;000k1b", "", "a"), 9, 9, 19, 0, 1);
        PosterWall sixth = Check.wall("000k2a;000k2b", "000003", "a");
        dueShower(sixth, 8, 0, 4, 0, 1);
        dueShower(sixth, 8, 0, 5, 1, 1);
        dueShower(sixth, 8, 4, 5, 1, 1);
        dueShower(sixth, 8, 5, 5, 1, 2);
        dueShower(Check.wall("000k2a;000k2b", "3333333333", "a"), 1, 9, 19, 522861237151L, 1099511627776L);
        dueShower(Check.wall("000k2a;000k2b", "33333333333333333333", "a"), 1, 9, 19, 1, 1);
        dueShower(Check.wall("000k2a;000k2b", "33333333333333333333", "a"), 1, 9, 9, 522861237151L, 1099511627776L);
        // Red is bleached in three dry days, so the fourth reads it only if one of three was wet.
        dueShower(Check.wall("000r1a;031k1b", "111", "ab"), 4, 2, 3, 37, 64);
        dueShower(Check.wall("000r1a;031k1b", "111", "ab"), 8, 2, 3, 7, 8);
    }

    private static void showerEdges() {
        dueShower(new PosterWall(), 8, 9, 19, 0, 1);
        dueShower(Check.wall("000k2a;000k2b", "3", ""), 8, 9, 19, 0, 1);
        dueShower(Check.wall("000k2a;000k2b", "3", "c"), 8, 9, 19, 0, 1);
        dueShower(Check.wall("000k2a", "", "a"), 8, 9, 19, 1, 1);
        PosterWall wall = Check.wall("000k2a;000k2b", "3", "a");
        int[][] bad = {{-1, 0, 0, 0}, {17, 0, 0, 0}, {0, -1, 0, 0}, {0, 10, 0, 0}, {0, 0, -1, 0}, {0, 0, 20, 0},
            {0, 0, 0, -1}, {0, 0, 0, 2}};
        for (int[] b : bad) due("shower", wall.shower(b[0], b[1], b[2], b[3]), Long.MIN_VALUE + 2);
        due("its own rain stays", wall.rain(0), 3);
        due("what is read stays", wall.at(0, 0, 0), 0);
    }

    private static void season() {
        CHECK.promise("27");
        // Obeyed by rains of 5 and more; what is told of rain does not matter.
        PosterWall wall = Check.wall("000k9a;000k5b", "99999999999999999999", "a");
        int[][] want = {{0, 20, 13}, {0, 10, 7}, {0, 1, 0}, {0, 2, 1}, {0, 0, 0}, {-1, 20, 11}, {7, 20, 7},
            {Integer.MIN_VALUE, 20, 12}, {Integer.MAX_VALUE, 20, 11}, {1, 5, 3}};
        for (int[] w : want) due("season(" + w[0] + ", " + w[1] + ", 0)", wall.season(w[0], w[1], 0), w[2]);
        due("dry behind them", Check.wall("000r1a;000r1b", "999", "b").season(0, 1, 0), 3);
        due("a is unread without rain", wall.season(0, 0, 1), 1);
        due("both are read", wall.season(0, 2, 1), 0);
        due("three unread", Check.wall("000k9a;000k9b;000k9c;000k9d", "", "").season(3, 0, 1), 3);
        due("no posters", new PosterWall().season(3, 20, 1), 0);
        due("told rain stays", wall.rain(0), 9);
        due("what is read stays", wall.at(0, 0, 0), 0);
        int[][] bad = {{0, -1, 0}, {0, 21, 0}, {0, 0, -1}, {0, 0, 2}};
        for (int[] b : bad) due("season", wall.season(b[0], b[1], b[2]), BAD);
    }
}
