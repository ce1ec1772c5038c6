/** The edges that promises 12 to 20 name, sentence by sentence. */
public final class DayEdgesTest {
    private static final Edges E = new Edges("DayEdgesTest", "## Promise 12:", "## Promise 21:");
    private static final int NONE = PosterWall.NONE, BAD = PosterWall.BAD;
    private static final String EIGHT = "000k9a;000k9b;000k9c;000k9d;000k9e;000k9f;000k9g;000k9h";
    private static final String WET = "9".repeat(20);

    private static void due(String call, long got, long want) {
        E.due(call, got, want);
    }

    public static void main(String[] args) {
        at();
        obeyed();
        days();
        unread();
        often();
        rip();
        wet();
        paste();
        stick();
        E.end();
    }

    private static void dueAt(PosterWall x, int day, int column, int... want) {
        for (int what = 0; what < 6; what++) {
            due("at(" + day + ", " + column + ", " + what + ")", x.at(day, column, what), want[what]);
        }
    }

    private static void at() {
        E.says("Promise 12: What is READ (what = 0; NONE), of which POSTER (1; NONE), how many lie on it (2), how many LAYERS"
            + " (3), how THICK (4), what INK (5).");
        dueAt(new PosterWall(), 0, 0, NONE, NONE, 0, 0, 0, 0);
        dueAt(new PosterWall(), 19, 5, NONE, NONE, 0, 0, 0, 0);
        dueAt(Check.wall("000k1a", "", ""), 0, 0, 0, 0, 0, 1, 1, 9);
        dueAt(Check.wall("195r9h", "", ""), 19, 5, 7, 0, 0, 1, 9, 9);
        dueAt(Check.wall("195r9h", "", ""), 18, 5, NONE, NONE, 0, 0, 0, 0);
        dueAt(Check.wall(EIGHT, "", ""), 0, 0, 7, 7, 0, 8, 72, 9);
        dueAt(Check.wall(EIGHT, "8", ""), 0, 0, 7, 7, 0, 8, 72, 9);
        dueAt(Check.wall(EIGHT, "9", ""), 0, 0, 6, 6, 1, 8, 72, 9);
        dueAt(Check.wall(EIGHT.replace('9', '1'), "9", ""), 0, 0, 0, 0, 7, 8, 8, 9);
        dueAt(Check.wall("000r5a", "", ""), 3, 0, NONE, 0, 0, 1, 5, 0);
        PosterWall torn = Check.wall("000r5a", "", "");
        torn.tear(3, 0);
        dueAt(torn, 3, 0, NONE, NONE, 0, 0, 0, 0);
        dueAt(Check.wall("000r5a;", "", ""), 0, 0, NONE, NONE, 0, 0, 0, 0);

        E.says("BAD.");
        E.outside("a day", 0, 19, Edges::some, (x, n) -> x.at(n, 0, 0), BAD);
        E.outside("a column", 0, 5, Edges::some, (x, n) -> x.at(0, n, 0), BAD);
        E.outside("what", 0, 5, Edges::some, (x, n) -> x.at(0, 0, n), BAD);
        E.outside("a day of an empty wall", 0, 19, PosterWall::new, (x, n) -> x.at(n, 0, 0), BAD);
    }

    private static void obeyed() {
        E.says("Promise 13: Whether THE LAW is OBEYED on a DAY: 1, 0.");
        PosterWall first = Check.wall("000r1a", "", "a");
        due("the first day", first.obeyed(0), 1);
        due("the last with ink", first.obeyed(2), 1);
        due("the first without", first.obeyed(3), 0);
        due("the last day", first.obeyed(19), 0);
        due("the last day", Check.wall("190r1a", "", "a").obeyed(19), 1);
        due("the one ahead", Check.wall("190r1a", "", "a").obeyed(18), 0);
        due("no law", Check.wall("000r1a", "", "").obeyed(0), 0);
        due("no posters", Check.wall("", "", "a").obeyed(0), 0);
        due("a new object", new PosterWall().obeyed(0), 0);

        E.says("BAD.");
        E.outside("a day", 0, 19, Edges::some, (x, n) -> x.obeyed(n), BAD);
    }

    private static void days() {
        E.says("Promise 14: OBEYED: on how many DAYS (what = 0), the first (1; NONE).");
        due("on none", new PosterWall().days(0), 0);
        due("no first", new PosterWall().days(1), NONE);
        due("on all", Check.wall("000k1a", WET, "a").days(0), 20);
        due("the first day", Check.wall("000k1a", WET, "a").days(1), 0);
        due("on one", Check.wall("190k1a", "", "a").days(0), 1);
        due("the last day", Check.wall("190k1a", "", "a").days(1), 19);

        E.says("BAD.");
        E.outside("what", 0, 1, Edges::some, (x, n) -> x.days(n), BAD);
    }

    private static void unread() {
        E.says("Promise 15: UNREAD, as bits.");
        due("no posters", new PosterWall().unread(), 0);
        due("one that is read", Check.wall("000k1a", "", "").unread(), 0);
        for (int p = 0; p < 7; p++) {
            // Each is read on a day of its own, but one that the next one hides at once.
            StringBuilder text = new StringBuilder();
            for (int i = 0; i < 8; i++) {
                text.append(i == 0 ? "" : ";").append(i == p || i == p + 1 ? "091k9a" : "0" + i + "0k9a");
            }
            due("bit " + p, Check.wall(text.toString(), "", "").unread(), 1 << p);
        }
        due("bit 7", Check.wall("000k1a;".repeat(7) + "000k1a", WET, "").unread() >> 7, 1);
    }

    private static void often() {
        E.says("Promise 16: OFTEN; NONE.");
        due("none", new PosterWall().often(), NONE);
        due("the first", Check.wall("000k1a", "", "").often(), 0);
        for (int p = 0; p < 8; p++) {
            StringBuilder text = new StringBuilder();
            for (int i = 0; i < 8; i++) text.append(i == 0 ? "" : ";").append(i == p ? "005k1a" : "191k1a");
            due("the " + p + "th", Check.wall(text.toString(), "", "").often(), p);
        }
    }

    private static void rip() {
        E.says("Promise 17: RIP: how many (i = NONE), the i-th (0, 1; NONE); NONE.");
        int[][] want = {{0, NONE, NONE}, {1, 0, NONE}, {2, 0, 0}, {NONE, NONE, NONE}};
        for (int i = 0; i < 4; i++) {
            PosterWall x = Check.wall(EIGHT, "", "" + (char) ('h' - i));
            for (int day : new int[] {1, 2, 8}) {
                for (int which = NONE; which <= 1; which++) due("rip", x.rip(day, which), want[i][which + 1]);
            }
        }
        // On day 0 nothing lies there yet when the tears come, on day 19 what is bleached does.
        due("on day 0", Check.wall(EIGHT, "", "g").rip(0, NONE), NONE);
        due("on day 19", Check.wall(EIGHT, "", "g").rip(19, NONE), 1);

        E.says("BAD.");
        E.outside("a day", 0, 19, Edges::some, (x, n) -> x.rip(n, 0), BAD);
        E.outside("i", -1, 1, Edges::some, (x, n) -> x.rip(0, n), BAD);
        E.outside("i behind eight tears", -1, 1, Edges::full, (x, n) -> x.rip(0, n), BAD);
    }

    private static void wet() {
        E.says("Promise 18: WET, as bits.");
        for (int thick = 1; thick <= 9; thick++) {
            PosterWall x = Check.wall("000k1a;000k" + thick + "b", "", "a");
            due("by no less than " + thick, x.wet(0), 1024 - (1 << thick));
        }
        due("on the last day", Check.wall("190k1a", "", "a").wet(19), 1023);
        due("on the one ahead", Check.wall("190k1a", "", "a").wet(18), 0);
        due("a new object", new PosterWall().wet(0), 0);

        E.says("BAD.");
        E.outside("a day", 0, 19, Edges::some, (x, n) -> x.wet(n), BAD);
    }

    private static void paste() {
        E.says("Promise 19: PASTE: which (what = 0), on how many (1).");
        for (int thick = 1; thick <= 9; thick++) {
            PosterWall x = Check.wall("000k1a;000k1b", ("" + (thick - 1)).repeat(20), "b");
            due("which", x.paste(1, 0), thick);
            // Without rain black is read on nine days.
            due("on how many", x.paste(1, 1), thick == 1 ? 9 : 20);
        }
        due("by none: the least", Check.wall("000k9a", "", "b").paste(0, 0), 1);
        due("by none: on 0", Check.wall("000k9a", "", "b").paste(0, 1), 0);
        due("the eighth", Check.wall(EIGHT, "8".repeat(20), "h").paste(7, 0), 9);
        due("the eighth", Check.wall(EIGHT, "8".repeat(20), "h").paste(7, 1), 20);

        E.says("BAD.");
        E.outside("a poster of two", 0, 1, Edges::some, (x, n) -> x.paste(n, 0), BAD);
        E.outside("a poster of eight", 0, 7, Edges.made(EIGHT, "", ""), (x, n) -> x.paste(n, 0), BAD);
        E.outside("what", 0, 1, Edges::some, (x, n) -> x.paste(0, n), BAD);
        E.refused("without posters", PosterWall::new, x -> x.paste(0, 0), BAD);
    }

    private static void stick() {
        E.says("Promise 20: STICK: the DAY (what = 0), the COLUMN (1), when (2); NONE.");
        for (int column = 0; column < 6; column++) {
            for (int day : new int[] {0, 1, 18, 19}) {
                // Only on that day is c read, and b of that day hides what is older.
                String twoFigures = (day < 10 ? "0" : "") + day;
                int other = column == 0 ? 1 : 0;
                StringBuilder law = new StringBuilder("......");
                law.setCharAt(other, 'c');
                law.setCharAt(column, 'a');
                PosterWall x = Check.wall(twoFigures + other + "k9c;" + twoFigures + column + "k9b;100k9a", "", law.toString());
                due("the day", x.stick(2, 0), day);
                due("the column", x.stick(2, 1), column);
                due("when", x.stick(2, 2), day);
            }
        }
        for (int what = 0; what < 3; what++) {
            due("by none", Check.wall("000k9a", "", "b").stick(0, what), NONE);
            due("without a law", Check.wall("000k9a", "", "").stick(0, what), NONE);
        }

        E.says("BAD.");
        E.outside("a poster of two", 0, 1, Edges::some, (x, n) -> x.stick(n, 0), BAD);
        E.outside("a poster of eight", 0, 7, Edges.made(EIGHT, "", ""), (x, n) -> x.stick(n, 0), BAD);
        E.outside("what", 0, 2, Edges::some, (x, n) -> x.stick(0, n), BAD);
        E.refused("without posters", PosterWall::new, x -> x.stick(0, 0), BAD);
    }
}
