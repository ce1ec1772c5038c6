/** The edges that paragraphs 2, 3 and 4 of the document name, sentence by sentence. */
public final class RulesEdgesTest {
    private static final Edges E = new Edges("RulesEdgesTest", "======== 2", "Ahead of the calls `type`");
    private static final int NONE = PosterWall.NONE, BAD = PosterWall.BAD, NOT = PosterWall.NOT, FULL = PosterWall.FULL;
    private static final int NULL = -11, INDEX = -12, CAST = -13, STORE = -14, SIZE = -15;
    private static final int LEAST = Integer.MIN_VALUE, GREATEST = Integer.MAX_VALUE;
    private static final int ALL_RAINS = 1023, ALL_THICKS = 1022, ALL_DAYS = 1048575;
    private static final String WET = "9".repeat(20), DAMP = "1".repeat(20);

    private static void due(String call, long got, long want) {
        E.due(call, got, want);
    }

    public static void main(String[] args) {
        at();
        obeyed();
        unreadAndOften();
        rip();
        wet();
        paste();
        stick();
        seen();
        never();
        thicksAndYears();
        ask();
        shower();
        season();
        refusals();
        unchanged();
        longRefusal();
        E.end();
    }

    // ---- paragraph 2

    private static void at() {
        PosterWall x = Check.wall("000r1ah;010y2b;010k3c", "003", "");
        E.says("On a DAY at a COLUMN: what is READ (NONE: nothing);");
        due("the least letter", x.at(0, 0, 0), 0);
        due("the greatest letter", x.at(0, 1, 0), 7);
        due("no layer", x.at(0, 2, 0), NONE);
        due("no ink", x.at(4, 1, 0), NONE);

        E.says("of which POSTER the LAYER is that is looked at (NONE: there is none);");
        due("the first", x.at(0, 0, 1), 0);
        due("the last", x.at(1, 0, 1), 2);
        due("through it", x.at(2, 0, 1), 1);
        due("without ink there is one", x.at(4, 1, 1), 0);
        due("none", x.at(0, 2, 1), NONE);
        due("the eighth", Check.wall("000k1a;".repeat(7) + "005k1a", "", "").at(0, 5, 1), 7);

        E.says("how many LAYERS lie on it (0: it is the top one, or there is none);");
        due("the top one", x.at(1, 0, 2), 0);
        due("one lies on it", x.at(2, 0, 2), 1);
        due("there is none", x.at(2, 5, 2), 0);
        String eight = "000k1a;".repeat(7) + "000k1a";
        due("seven, the most", Check.wall(eight, "7", "").at(0, 0, 2), 7);
        due("no more by more rain", Check.wall(eight, "9", "").at(0, 0, 2), 7);

        E.says("how many LAYERS there are;");
        due("none", x.at(0, 5, 3), 0);
        due("one", x.at(0, 0, 3), 1);
        due("three", x.at(1, 0, 3), 3);
        due("eight, the most", Check.wall(eight, "", "").at(0, 0, 3), 8);

        E.says("how THICK they are in all;");
        due("none", x.at(0, 5, 4), 0);
        due("the thinnest", x.at(0, 0, 4), 1);
        due("three", x.at(1, 0, 4), 6);
        due("whatever is looked at", x.at(2, 0, 4), 6);
        due("72, the most", Check.wall("000k9a;".repeat(7) + "000k9a", "", "").at(0, 0, 4), 72);

        E.says("what INK the one looked at has, ahead of what it loses on that DAY (0: none).");
        due("no layer", x.at(0, 5, 5), 0);
        due("on the first dry day", x.at(0, 1, 5), 9);
        due("on the second", x.at(1, 1, 5), 6);
        due("of the one looked at, not of the top one", x.at(2, 0, 5), 9);
        due("all lost", x.at(4, 1, 5), 0);
    }

    private static void obeyed() {
        E.says("OBEYED: on how many DAYS; the first one; NONE.");
        Object[][] want = {{"000k1a", WET, "a", 20, 0}, {"000r1a", "", "a", 3, 0}, {"190k1a", "", "a", 1, 19},
            {"000k1a", "", "b", 0, NONE}, {"000k1a", "", "", 0, NONE}, {"", "", "a", 0, NONE}};
        for (Object[] w : want) {
            PosterWall x = Check.wall((String) w[0], (String) w[1], (String) w[2]);
            due("on how many", x.days(0), (int) w[3]);
            due("the first", x.days(1), (int) w[4]);
        }
        PosterWall apart = Check.wall("000r1a;000k1b", "01000000000000000001", "a");
        due("on two days", apart.days(0), 2);
        due("the first of them", apart.days(1), 1);
    }

    private static void unreadAndOften() {
        E.says("UNREAD: POSTERS of which nothing is READ on any DAY, as bits.");
        String eight = "000k1a;".repeat(7) + "000k1a";
        due("no posters", new PosterWall().unread(), 0);
        due("all but the top one", Check.wall(eight, "", "").unread(), 127);
        due("all but the lowest", Check.wall(eight, WET, "").unread(), 254);
        due("none", Check.wall("000k1a;001k1b", "", "").unread(), 0);
        due("read on the last day alone", Check.wall("000k1a;000k1b", "0".repeat(19) + "1", "").unread(), 0);
        due("one letter of it is read", Check.wall("002k1abcd;002k1efg", "", "").unread(), 0);
        due("no letter of it", Check.wall("002k1abcd;002k1efgh", "", "").unread(), 1);
        PosterWall torn = Check.wall("000y9a;000r9b", "", "");
        due("below what is bleached", torn.unread(), 1);
        torn.tear(19, 0);
        due("when that is torn on the last day", torn.unread(), 0);

        E.says("OFTEN: the POSTER of which something is READ on most DAYS, of like ones the least; NONE: there are none.");
        due("none", new PosterWall().often(), NONE);
        due("none, by a fault", Check.wall("000k1a;", "", "").often(), NONE);
        due("the only one", Check.wall("190r1a", "", "").often(), 0);
        due("like ones", Check.wall("000k1a;001k1a;002k1a", "", "").often(), 0);
        due("one day less", Check.wall("110k1a;111k1a;122k1a", "", "").often(), 0);
        due("one day more", Check.wall("121k1a;110k1a;102k1a", "", "").often(), 1);
        due("the eighth", Check.wall("190k1a;".repeat(7) + "180k1a", WET, "").often(), 7);
        due("two columns are no two days", Check.wall("190k1aaaa;184k1a", "", "").often(), 1);
    }

    // ---- paragraph 3

    private static void dueRip(PosterWall x, int day, int count, int first, int second) {
        due("how many", x.rip(day, NONE), count);
        due("the first", x.rip(day, 0), first);
        due("the second", x.rip(day, 1), second);
    }

    private static void rip() {
        String four = "000k9a;000k9b;000k9c;000k9d";
        E.says("RIP for a DAY: the fewest TEARS more (0 to 2) on it,");
        dueRip(Check.wall(four, "", "d"), 1, 0, NONE, NONE);
        dueRip(Check.wall(four, "", "c"), 1, 1, 0, NONE);
        dueRip(Check.wall(four, "", "b"), 1, 2, 0, 0);
        dueRip(Check.wall(four, "", "a"), 1, NONE, NONE, NONE);
        // By one tear and by two of them: the fewest.
        dueRip(Check.wall("000k9a;000k9b;000k9a;000k9c", "", "a"), 1, 1, 0, NONE);
        // On the day itself: what is stuck on it comes behind, and the next day is another.
        dueRip(Check.wall("000k9a;010k9b", "", "a"), 0, 0, NONE, NONE);
        dueRip(Check.wall("000k9a;010k9b", "", "a"), 1, NONE, NONE, NONE);
        dueRip(Check.wall("000k9a;010k9b", "", "a"), 2, 1, 0, NONE);
        dueRip(Check.wall("000k9a;190k9b", "", "b"), 19, 0, NONE, NONE);

        E.says("behind all others (whatever room),");
        PosterWall room = Check.wall(four, "", "a");
        for (int i = 0; i < 7; i++) room.tear(0, 5);
        room.tear(1, 0);
        dueRip(room, 1, 2, 0, 0);
        dueRip(room, 2, 2, 0, 0);
        due("tears are as they were", room.count(6), 8);
        due("nothing is torn", room.at(1, 0, 3), 3);
        PosterWall seven = Check.wall(four, "", "b");
        for (int i = 0; i < 7; i++) seven.tear(0, 5);
        dueRip(seven, 1, 2, 0, 0);
        due("room for one more still", seven.tear(1, 0), 8);

        E.says("so that THE LAW is OBEYED on it, of like ones the least row (each no less than the one ahead): how many; the"
            + " i-th COLUMN; NONE.");
        dueRip(Check.wall("004k9ab;004k9cd", "", "....ab"), 1, 2, 4, 5);
        dueRip(Check.wall("005k9a;005k9b;005k9c", "", ".....a"), 1, 2, 5, 5);
        dueRip(Check.wall("000k9a;000k9b;005k9c;005k9d", "", "a....c"), 1, 2, 0, 5);
        // b goes by one tear at column 0; a second one at any column does as well, and one is fewer.
        dueRip(Check.wall("000k9a;000k9b", "", "a"), 1, 1, 0, NONE);
        dueRip(Check.wall("000k9a", "", ""), 1, NONE, NONE, NONE);
        dueRip(new PosterWall(), 0, NONE, NONE, NONE);
        dueRip(Check.wall("000k9a;000k9b;001k9a;001k9b;002k9a;002k9b", "", "aaa"), 1, NONE, NONE, NONE);
    }

    private static void wet() {
        E.says("WET for a DAY: RAINS (0 to 9) of it, in place of its own, by which THE LAW is OBEYED on it, as bits.");
        String two = "000k9a;000k1b";
        due("0 alone", Check.wall(two, "", "b").wet(0), 1);
        due("all but 0", Check.wall(two, "", "a").wet(0), ALL_RAINS - 1);
        due("9 alone", Check.wall("000k9a;000k9b", "", "a").wet(0), 1 << 9);
        due("all but 9", Check.wall("000k9a;000k9b", "", "b").wet(0), ALL_RAINS - (1 << 9));
        due("all", Check.wall("000k9a", "", "a").wet(0), ALL_RAINS);
        due("by none", Check.wall("000k9a", "", "b").wet(0), 0);
        due("without a law", Check.wall("000k9a", "", "").wet(0), 0);
        due("in place of its own", Check.wall(two, "9", "b").wet(0), 1);
        due("the last day", Check.wall("190k9a;190k1b", "", "b").wet(19), 1);
        due("other days have theirs", Check.wall("000r1a", "0", "a").wet(3), 0);
        due("other days have theirs", Check.wall("000r1a", "1", "a").wet(3), ALL_RAINS);
        PosterWall x = Check.wall(two, "5", "a");
        x.wet(0);
        due("its own is as it was", x.rain(0), 5);
    }

    private static void duePaste(PosterWall x, int poster, int thick, int days) {
        due("which", x.paste(poster, 0), thick);
        due("on how many", x.paste(poster, 1), days);
    }

    private static void paste() {
        E.says("PASTE for a POSTER: how THICK (1 to 9), in place of its own, by which THE LAW is OBEYED on most DAYS, of like"
            + " ones the least: which; on how many.");
        duePaste(Check.wall("000k9a;000k9b", DAMP, "a"), 1, 1, 20);
        duePaste(Check.wall("000k9a;000k1b", "8".repeat(20), "b"), 1, 9, 20);
        // Not even the thickest hides from a rain of 9.
        duePaste(Check.wall("000k9a;000k5b", WET, "b"), 1, 1, 0);
        duePaste(Check.wall("000k9a", WET, "a"), 0, 1, 20);
        duePaste(Check.wall("000k9a", "", ""), 0, 1, 0);
        duePaste(Check.wall("000k9a;".repeat(7) + "000k9b", "3".repeat(20), "b"), 7, 4, 20);
        PosterWall x = Check.wall("000k9a;000k9b", "1", "a");
        x.paste(1, 0);
        due("its own is as it was", x.poster(1, 3), 9);
    }

    private static void dueStick(PosterWall x, int poster, int day, int column, int when) {
        due("the day", x.stick(poster, 0), day);
        due("the column", x.stick(poster, 1), column);
        due("when", x.stick(poster, 2), when);
    }

    private static void stick() {
        E.says("STICK for a POSTER: the DAY (0 to 19) and the COLUMN (0 to 5), in place of its own, by which THE LAW is OBEYED"
            + " first soonest, of like ones the least DAY, then the least COLUMN: the DAY; the COLUMN; when it is OBEYED; NONE:"
            + " by none.");
        dueStick(Check.wall("195k1a", "", "a"), 0, 0, 0, 0);
        dueStick(Check.wall("000k1abcd", "", ".....a"), 0, 0, 5, 0);
        // c comes on day 19 alone, and b of that day hides at column 5 all that is older.
        dueStick(Check.wall("190k9c;195k9b;000k9a", "", "c....a"), 2, 19, 5, 19);
        // Wherever the other one is stuck, a is read at once, but for the place where it is hidden.
        dueStick(Check.wall("000k1a;000k1b", "", "a"), 1, 0, 1, 0);
        dueStick(Check.wall("000k1aaaa;004k1aa;000k1bbbb", "", "aaaaaa"), 2, 1, 0, 0);
        dueStick(Check.wall("000k1a", "", "b"), 0, NONE, NONE, NONE);
        dueStick(Check.wall("000k1a", "", ""), 0, NONE, NONE, NONE);
        // Without it all six letters are read on day 19; wherever and whenever it is stuck, it hides one of them.
        dueStick(Check.wall("001k9aaaa;005k9a;190k9a;000k9bb", DAMP, "aaaaaa"), 3, NONE, NONE, NONE);
        // A second letter has no column to the right of the last one.
        dueStick(Check.wall("000k1ab", "", "b"), 0, NONE, NONE, NONE);
        PosterWall x = Check.wall("195k1a", "", "a");
        x.stick(0, 0);
        due("its own is as it was", x.poster(0, 0) * 10 + x.poster(0, 1), 195);
    }

    // ---- paragraph 4

    private static void seen() {
        E.says("SEEN, 8 at most: on a DAY at a COLUMN a letter (0 to 7; 8: nothing) was READ.");
        PosterWall x = Check.wall("000k9ah", WET, "");
        for (int i = 1; i <= 4; i++) due("the least letter", x.seen(0, 0, 0), i);
        due("the greatest", x.seen(19, 1, 7), 5);
        for (int i = 6; i <= 8; i++) due("nothing", x.seen(19, 5, 8), i);
        due("it all comes out so", x.was(0, 0), ALL_THICKS);
        E.refused("a ninth", Edges::full, y -> y.seen(0, 0, 0), FULL);
        E.outside("a day", 0, 19, Edges::some, (y, n) -> y.seen(n, 0, 0), BAD);
        E.outside("a column", 0, 5, Edges::some, (y, n) -> y.seen(0, n, 0), BAD);
        E.outside("a letter", 0, 8, Edges::some, (y, n) -> y.seen(0, 0, n), BAD);
        // Each of eight counts, the first and the last of them too.
        for (int wrong = 0; wrong < 8; wrong++) {
            PosterWall y = Check.wall("000k9a", WET, "");
            for (int i = 0; i < 8; i++) y.seen(i, 0, i == wrong ? 1 : 0);
            due("not so by the " + wrong + "th", y.was(0, 0), 0);
        }
    }

    private static void never() {
        E.says("NEVER: TEARS each of which, had it alone not been, makes all that was SEEN come out so, as bits.");
        due("no tears", Check.wall("000k9a", "", "").never(), 0);
        String eight = "000k9a;000k9b;000k9c;000k9d;000k9e;000k9f;000k9g;000k9h";
        for (int i = 0; i < 8; i++) {
            PosterWall x = Check.wall(eight, DAMP, "");
            for (int j = 0; j < 8; j++) x.tear(1 + j, 0);
            // One layer goes on each of days 1 to 8; a is left on the last of them, if any of the tears was not.
            x.seen(8, 0, 0);
            due("any of them", x.never(), 255);
            x.seen(1 + i, 0, 7 - i);
            due("one of those up to the " + i + "th", x.never(), (2 << i) - 1);
        }
        PosterWall last = Check.wall("000k9a", WET, "");
        for (int j = 0; j < 7; j++) last.tear(0, 5);
        last.tear(1, 0);
        due("nothing was seen", last.never(), 255);
        last.seen(1, 0, 0);
        due("the eighth alone", last.never(), 128);
        last.forget();
        last.seen(1, 0, 8);
        due("all but the eighth", last.never(), 127);
        due("all are as they were", last.count(6), 8);
        last.undo(1);
        due("and the eighth tears", last.at(1, 0, 3), 0);
        PosterWall first = Check.wall("000k9a", DAMP, "");
        first.tear(1, 0);
        first.never();
        first.undo(1);
        due("and the first tears", first.at(1, 0, 3), 0);
        PosterWall two = Check.wall("000k9a", WET, "");
        two.tear(1, 0);
        two.tear(1, 0);
        two.seen(1, 0, 0);
        due("one alone is too few", two.never(), 0);
    }

    private static void thicksAndYears() {
        E.says("THICKS of a POSTER: 1 to 9, in place of its own, likewise, as bits (bit 1 on).");
        PosterWall x = Check.wall("000k9a;000k5b", "18", "");
        due("nothing was seen", x.was(1, 0), ALL_THICKS);
        x.seen(0, 0, 0);
        due("1 alone", x.was(1, 0), 1 << 1);
        x.forget();
        x.seen(1, 0, 1);
        due("9 alone", x.was(1, 0), 1 << 9);
        x.seen(0, 0, 0);
        due("by none", x.was(1, 0), 0);
        due("its own is as it was", x.poster(1, 3), 5);

        E.says("YEARS of a POSTER: DAYS (0 to 19), in place of its own, likewise, as bits.");
        PosterWall y = Check.wall("100k9a", WET, "");
        due("nothing was seen", y.was(0, 1), ALL_DAYS);
        y.seen(0, 0, 0);
        due("0 alone", y.was(0, 1), 1);
        y.forget();
        y.seen(18, 0, 8);
        due("19 alone", y.was(0, 1), 1 << 19);
        y.seen(19, 0, 8);
        due("by none", y.was(0, 1), 0);
        due("its own is as it was", y.poster(0, 0), 10);
    }

    private static void ask() {
        E.says("ASK of a POSTER: the COLUMN at which the greatest number of its YEARS by which like ones (or nothing) are READ"
            + " there on DAY 19 is least, of like ones the least.");
        // Black and dry: nothing by the years 0 to 10, its letter by the 9 later ones; elsewhere nothing by all 20.
        for (int column = 0; column < 6; column++) {
            due("its column", Check.wall("00" + column + "k9a", "", "").ask(0), column);
        }
        due("of two the least", Check.wall("004k9ab", "", "").ask(0), 4);
        due("like everywhere", Check.wall("005k9a", WET, "").ask(0), 0);
        PosterWall none = Check.wall("005k9a", "", "");
        none.seen(0, 0, 0);
        due("no years", none.was(0, 1), 0);
        due("without years all are like", none.ask(0), 0);
        PosterWall one = Check.wall("005k9a", "", "");
        one.seen(0, 5, 0);
        due("one year", one.was(0, 1), 1);
        due("by one year all are like", one.ask(0), 0);
        // By years 10 and 11: nothing by the one, a by the other.
        PosterWall two = Check.wall("005k9a", "", "");
        two.seen(11, 5, 0);
        two.seen(9, 5, 8);
        due("two years", two.was(0, 1), 3 << 10);
        due("1 is less than 2", two.ask(0), 5);
        due("the eighth", Check.wall("190k9a;".repeat(7) + "003k9a", "", "").ask(7), 3);
        // c of day 19 lies at column 1 on what is older, so by 19 years; elsewhere nothing is read by 20.
        due("19 is less than 20", Check.wall("191y9c;001k9b", "", "").ask(1), 1);
    }

    private static void dueChance(PosterWall x, int c, int last, int day, long above, long below) {
        due("above " + c + " " + last + " " + day, x.shower(c, last, day, 0), above);
        due("below " + c + " " + last + " " + day, x.shower(c, last, day, 1), below);
    }

    private static void shower() {
        E.says("SHOWER: on each DAY from 0 to a told one (0 to 9) it rains as told by c sixteenths (0 to 16), by itself, else"
            + " not (0): the chance that THE LAW is OBEYED on any DAY up to another told one: a FRACTION.");
        for (int last = 0; last <= 9; last++) {
            // Obeyed on one day alone, if it rains there.
            for (int day = 0; day <= 11; day++) {
                PosterWall x = Check.wall("000k2a;000k2b", "0".repeat(day) + "2", "a");
                boolean chance = day <= last;
                dueChance(x, 4, last, day, 1, chance ? 4 : 1);
                dueChance(x, 0, last, day, chance ? 0 : 1, 1);
                dueChance(x, 16, last, day, 1, 1);
                dueChance(x, 4, last, 19, 1, chance ? 4 : 1);
                if (day > 0) dueChance(x, 16, last, day - 1, 0, 1);
            }
        }
        PosterWall last = Check.wall("190k2a", "", "a");
        dueChance(last, 8, 9, 18, 0, 1);
        dueChance(last, 8, 9, 19, 1, 1);
        // Each day by itself, and any of them is enough: 1 less 3/4 by 3/4 by 3/4.
        PosterWall each = Check.wall("000k2a;000k2b", "222", "a");
        dueChance(each, 4, 9, 0, 1, 4);
        dueChance(each, 4, 9, 1, 7, 16);
        dueChance(each, 4, 9, 2, 37, 64);
        // A rain that is told as 0 is none.
        dueChance(Check.wall("000k2a;000k1b", "", "a"), 16, 9, 19, 0, 1);
        // Where it does not rain it bleaches: red is left for a fourth day by 1 less 3/4 by 3/4 by 3/4.
        dueChance(Check.wall("000r1a;031k1b", "999", "ab"), 4, 2, 3, 37, 64);
    }

    private static void season() {
        E.says("SEASON by a SEED: n LOTS of 10 (0 to 20) are RAINS, in place of those told (0 on later DAYS): on how many DAYS"
            + " THE LAW is OBEYED; how many POSTERS are UNREAD.");
        PosterWall x = Check.wall("000k9a;000k1b", WET, "a");
        due("no lots, so no rain", x.season(1, 0, 0), 0);
        due("the lower one is unread", x.season(1, 0, 1), 1);
        // By 1 the first lot is 16838, a rain of 8.
        due("one lot", x.season(1, 1, 0), 1);
        due("both are read", x.season(1, 1, 1), 0);
        // By 20 lots a is read on each day that has rain.
        int rains = 0;
        for (int n = 1, s = 1; n <= 20; n++) {
            s = 1103515245 * s + 12345;
            if ((s >>> 16) % 10 > 0) rains++;
            due(n + " lots", x.season(1, n, 0), rains);
        }
        E.outside("n", 0, 20, Edges::some, (y, n) -> y.season(1, n, 0), BAD);
        for (int seed : new int[] {LEAST, -1, 0, GREATEST}) {
            PosterWall one = Check.wall("000k9a", "", "a");
            due("any seed", one.season(seed, 1, 0), ((1103515245 * seed + 12345) >>> 16) % 10 == 0 ? 9 : 10);
        }
        due("rains are as told", x.rain(0) + x.rain(19), 18);
        due("no posters", new PosterWall().season(1, 20, 1), 0);
        due("seven of eight unread", Check.wall("000k9a;".repeat(7) + "000k9a", "", "").season(1, 0, 1), 7);
    }

    private static void refusals() {
        E.says("Refusals, the first that fits, in the order told at each act: BAD -2 (a number not as told, no such thing),");
        due("BAD", BAD, -2);
        E.refused("a bad byte behind a full text", Edges::full, x -> x.type(0, 256), BAD);
        E.refused("a bad tear behind eight", Edges::full, x -> x.tear(20, 0), BAD);
        E.refused("a bad one behind eight seen", Edges::full, x -> x.seen(0, 6, 0), BAD);
        E.refused("undo in no such text", PosterWall::new, x -> x.undo(3), BAD);
        E.refused("a form that is not, of a lost sheet", Edges::some, x -> x.lay(3, 3, 0, 0), BAD);
        E.refused("a form that is not, of a lost sheet", Edges::some, x -> x.get(3, 3, 0), LEAST, 0);
        E.refused("a day that is not, to a lost sheet", Edges::some, x -> x.write(20, 3), BAD);
        E.refused("from a lost sheet to none", Edges::some, x -> x.copy(3, 0, 4, 0, 0), BAD);
        E.refused("from none to a lost sheet", Edges::some, x -> x.copy(-1, 0, 3, 0, 0), BAD);
        E.refused("below 0 items of no form", Edges::some, x -> x.sheet(0, 3, -1), BAD);
        E.refused("no such poster", Edges::some, x -> x.poster(2, 0), BAD);

        E.says("NULL,");
        E.refused("a lost sheet as of another form, no such item", Edges::some, x -> x.lay(3, 1, 99, 0), NULL);
        E.refused("a lost sheet as of another form, no such item", Edges::some, x -> x.get(3, 1, 99), LEAST, 1);
        E.refused("from a lost one, no such item", Edges::some, x -> x.copy(3, -1, 0, 99, 1), NULL);
        E.refused("to a lost one, no such item", Edges::some, x -> x.copy(0, 99, 3, -1, 1), NULL);
        E.refused("from a lost one to it", Edges::some, x -> x.copy(3, 0, 3, 0, 0), NULL);
        E.refused("to be read when there is no room", () -> {
            PosterWall y = new PosterWall();
            for (int i = 0; i < 8; i++) y.tear(0, 0);
            return y;
        }, x -> x.read(0), NULL);

        E.says("NOT -3 (as told),");
        due("NOT", NOT, -3);
        for (int text = 0; text < 3; text++) {
            int which = text;
            E.refused("undo of an empty text", PosterWall::new, x -> x.undo(which), NOT);
        }
        E.refused("back without a tear", Edges.made("000k1a", "1", "a"), x -> x.back(), NOT);

        E.says("FULL -4,");
        due("FULL", FULL, -4);
        for (int text = 0; text < 3; text++) {
            int which = text;
            E.refused("type", Edges::full, x -> x.type(which, 0), FULL);
        }
        E.refused("tear", Edges::full, x -> x.tear(19, 5), FULL);
        E.refused("seen", Edges::full, x -> x.seen(19, 5, 8), FULL);

        E.says("other FINDINGS.");
        E.refused("another form, no such item", Edges::some, x -> x.lay(0, 2, 3, 0), CAST);
        E.refused("another form, no such item", Edges::some, x -> x.get(0, 2, 3), LEAST, 3);
        E.refused("no such item", Edges::some, x -> x.lay(0, 0, 3, 0), INDEX);
        E.refused("unlike forms, no such items", Edges::some, x -> x.copy(0, -1, 1, -1, -1), STORE);
        E.refused("unlike forms, no items", Edges::some, x -> x.copy(0, 0, 1, 0, 0), STORE);
        E.refused("no such items", Edges::some, x -> x.copy(0, -1, 0, 0, 1), INDEX);
        E.refused("below 0 items", Edges::some, x -> x.sheet(3, 0, -1), SIZE);
    }

    /** One refused call of each kind that an act has, one behind the other on one object, and all is as it was. */
    private static void unchanged() {
        E.says("They change nothing (FINDINGS but count() 8).");
        E.refused("all BAD", Edges::some, x -> {
            long sum = x.type(3, 0) + x.type(0, 256) + x.wipe(3) + x.undo(3) + x.fault(3) + x.poster(2, 0) + x.poster(0, 9);
            sum += x.rain(20) + x.law(6) + x.tear(20, 0) + x.tear(0, 6) + x.read(4) + x.at(20, 0, 0) + x.at(0, 6, 0);
            sum += x.at(0, 0, 6) + x.obeyed(20) + x.days(2) + x.rip(20, 0) + x.rip(0, 2) + x.rip(0, -2) + x.wet(20);
            sum += x.paste(2, 0) + x.paste(0, 2) + x.stick(2, 0) + x.stick(0, 3) + x.seen(20, 0, 0) + x.seen(0, 6, 0);
            sum += x.seen(0, 0, 9) + x.was(2, 0) + x.was(0, 2) + x.ask(2) + x.season(0, 21, 0) + x.season(0, 0, 2);
            sum += x.sheet(4, 0, 0) + x.sheet(0, 3, 0) + x.sheet(0, 0, 61) + x.lose(4) + x.lay(4, 0, 0, 0) + x.lay(0, 3, 0, 0);
            return sum + x.copy(4, 0, 0, 0, 0) + x.copy(0, 0, 4, 0, 0) + x.write(20, 0) + x.write(0, 4) + x.count(9);
        }, 44 * BAD);
        E.refused("all FULL", Edges::full, x -> x.type(0, 0) + x.type(1, 0) + x.type(2, 0) + x.tear(0, 0) + x.seen(0, 0, 0),
            5 * FULL);
        E.refused("all NOT", PosterWall::new, x -> x.undo(0) + x.undo(1) + x.undo(2) + x.back(), 4 * NOT, 0);
        PosterWall x = Edges.some();
        due("a null", x.lose(3), NULL);
        due("its number", x.count(8), 1);
        due("a bad one", x.lose(4), BAD);
        due("the number stays", x.count(8), 1);
        due("an index", x.lay(0, 0, 3, 0), INDEX);
        due("its number", x.count(8), 2);
        due("what is well", x.lay(0, 0, 2, 0), 1);
        due("the number stays", x.count(8), 2);
    }

    private static void longRefusal() {
        E.says("Where the answer is a long, a refusal -x is the least long and x more.");
        due("the least long and 2 more", Long.MIN_VALUE + 2, -9223372036854775806L);
        E.outside("c", 0, 16, Edges::some, (x, n) -> x.shower(n, 0, 0, 0), Long.MIN_VALUE + 2);
        E.outside("last", 0, 9, Edges::some, (x, n) -> x.shower(0, n, 0, 0), Long.MIN_VALUE + 2);
        E.outside("day", 0, 19, Edges::some, (x, n) -> x.shower(0, 0, n, 0), Long.MIN_VALUE + 2);
        E.outside("what", 0, 1, Edges::some, (x, n) -> x.shower(0, 0, 0, n), Long.MIN_VALUE + 2);
    }
}
