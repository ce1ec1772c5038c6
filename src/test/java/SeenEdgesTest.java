import java.math.BigInteger;

/** The edges that promises 21 to 27 name, sentence by sentence. */
public final class SeenEdgesTest {
    private static final Edges E = new Edges("SeenEdgesTest", "## Promise 21:", "## Promise 28:");
    private static final int BAD = PosterWall.BAD, FULL = PosterWall.FULL;
    private static final int LEAST = Integer.MIN_VALUE, GREATEST = Integer.MAX_VALUE;
    private static final long LONG_BAD = Long.MIN_VALUE + 2;
    private static final int ALL_THICKS = 1022, ALL_DAYS = 1048575;
    private static final String EIGHT = "000k9a;000k9b;000k9c;000k9d;000k9e;000k9f;000k9g;000k9h";
    private static final String DAMP = "1".repeat(20);

    private static void due(String call, long got, long want) {
        E.due(call, got, want);
    }

    public static void main(String[] args) {
        seen();
        forget();
        never();
        was();
        ask();
        shower();
        season();
        E.end();
    }

    private static void seen() {
        E.says("Promise 21: SEEN more: how many.");
        int[][] sights = {{0, 0, 0}, {19, 5, 8}, {0, 5, 7}, {19, 0, 0}, {19, 0, 0}, {1, 1, 1}, {18, 4, 8}, {0, 0, 8}};
        PosterWall x = new PosterWall();
        for (int i = 0; i < 8; i++) due("seen", x.seen(sights[i][0], sights[i][1], sights[i][2]), i + 1);
        for (int letter = 0; letter <= 8; letter++) {
            PosterWall y = Check.wall("005k9" + (letter < 8 ? "" + (char) ('a' + letter) : "a"), DAMP, "");
            y.seen(19, letter < 8 ? 5 : 4, letter);
            due("letter " + letter + " was read", y.was(0, 0), ALL_THICKS);
            y.seen(19, letter < 8 ? 5 : 4, (letter + 1) % 9);
            due("no other one", y.was(0, 0), 0);
        }

        E.says("BAD;");
        E.outside("a day", 0, 19, Edges::some, (y, n) -> y.seen(n, 0, 0), BAD);
        E.outside("a column", 0, 5, Edges::some, (y, n) -> y.seen(0, n, 0), BAD);
        E.outside("a letter", 0, 8, Edges::some, (y, n) -> y.seen(0, 0, n), BAD);
        E.refused("a bad day behind eight", Edges::full, y -> y.seen(20, 0, 0), BAD);
        E.refused("a bad letter behind eight", Edges::full, y -> y.seen(0, 0, 9), BAD);

        E.says("FULL.");
        E.refused("a ninth", Edges::full, y -> y.seen(0, 0, 0), FULL);
        PosterWall again = Edges.full();
        again.forget();
        due("room again", again.seen(0, 0, 0), 1);
    }

    private static void forget() {
        E.says("Promise 22: All SEEN are forgotten: how many.");
        due("none", new PosterWall().forget(), 0);
        for (int n = 0; n <= 8; n++) {
            PosterWall x = Check.wall("000k9a", DAMP, "");
            for (int i = 0; i < n; i++) x.seen(i, 0, 7);
            due("by them", x.was(0, 0), n == 0 ? ALL_THICKS : 0);
            due("all", x.forget(), n);
            due("none are left", x.count(7), 0);
            due("without them", x.was(0, 0), ALL_THICKS);
            due("no more", x.forget(), 0);
        }
        PosterWall full = Edges.full();
        due("eight", full.forget(), 8);
        due("tears and texts stay", full.count(6) * 100 + full.count(3), 879);
    }

    private static void never() {
        E.says("Promise 23: NEVER, as bits.");
        due("no tears", new PosterWall().never(), 0);
        PosterWall seen = new PosterWall();
        seen.seen(0, 0, 0);
        due("no tears, though something was seen", seen.never(), 0);
        for (int n = 1; n <= 8; n++) {
            PosterWall x = Check.wall("000k9a", DAMP, "");
            for (int i = 1; i < n; i++) x.tear(0, 5);
            x.tear(1, 0);
            due("all of " + n, x.never(), (1 << n) - 1);
            x.seen(19, 0, 0);
            due("the last of " + n, x.never(), 1 << (n - 1));
            x.seen(19, 0, 1);
            due("none of " + n, x.never(), 0);
        }
    }

    private static void was() {
        E.says("Promise 24: THICKS (what = 0), YEARS (1), as bits.");
        for (int rain = 1; rain <= 9; rain++) {
            PosterWall x = Check.wall("000k9a;000k5b", "" + rain, "");
            x.seen(0, 0, 0);
            due("no more than " + rain, x.was(1, 0), (2 << rain) - 2);
            x.forget();
            x.seen(0, 0, 1);
            due("more than " + rain, x.was(1, 0), 1024 - (2 << rain));
        }
        for (int day = 0; day < 20; day++) {
            PosterWall x = Check.wall("000k9a;100k9b", DAMP, "");
            x.seen(day, 0, 1);
            due("no later than " + day, x.was(1, 1), (2 << day) - 1);
            if (day > 0) x.seen(day - 1, 0, 0);
            due("on " + day, x.was(1, 1), 1 << day);
        }
        due("all thicks", Edges.made(EIGHT, "", "").get().was(7, 0), ALL_THICKS);
        due("all years", Edges.made(EIGHT, "", "").get().was(7, 1), ALL_DAYS);
        PosterWall none = Check.wall("000k9a", "", "");
        none.seen(0, 0, 7);
        due("no thicks", none.was(0, 0), 0);
        due("no years", none.was(0, 1), 0);

        E.says("BAD.");
        E.outside("a poster of two", 0, 1, Edges::some, (x, n) -> x.was(n, 0), BAD);
        E.outside("a poster of eight", 0, 7, Edges.made(EIGHT, "", ""), (x, n) -> x.was(n, 1), BAD);
        E.outside("what", 0, 1, Edges::some, (x, n) -> x.was(0, n), BAD);
        E.refused("without posters", PosterWall::new, x -> x.was(0, 0), BAD);
    }

    private static void ask() {
        E.says("Promise 25: ASK.");
        for (int column = 0; column < 6; column++) {
            due("column " + column, Check.wall("00" + column + "k9h", "", "").ask(0), column);
        }
        due("the least, by all years alike", Check.wall("005k9h", DAMP, "").ask(0), 0);
        PosterWall none = Check.wall("005k9h", "", "");
        none.seen(0, 5, 0);
        due("the least, by no years", none.ask(0), 0);

        E.says("BAD.");
        E.outside("a poster of two", 0, 1, Edges::some, (x, n) -> x.ask(n), BAD);
        E.outside("a poster of eight", 0, 7, Edges.made(EIGHT, "", ""), (x, n) -> x.ask(n), BAD);
        E.refused("without posters", PosterWall::new, x -> x.ask(0), BAD);
        E.refused("with a fault", Edges.made("000k9h;", "", ""), x -> x.ask(0), BAD);
    }

    private static void dueChance(PosterWall x, int c, int last, int day, long above, long below) {
        due("above " + c + " " + last + " " + day, x.shower(c, last, day, 0), above);
        due("below " + c + " " + last + " " + day, x.shower(c, last, day, 1), below);
    }

    /** The chance of at least one of n, each by c sixteenths. */
    private static void dueAny(PosterWall x, int c, int last, int day, int n) {
        BigInteger below = BigInteger.valueOf(16).pow(n);
        BigInteger above = below.subtract(BigInteger.valueOf(16 - c).pow(n));
        BigInteger divisor = above.gcd(below);
        dueChance(x, c, last, day, above.divide(divisor).longValueExact(), below.divide(divisor).longValueExact());
    }

    private static void shower() {
        E.says("Promise 26: SHOWER: c sixteenths, up to last (0 to 9), up to a DAY: above, below.");
        PosterWall x = Check.wall("000k1a;000k1b", "1".repeat(10), "a");
        for (int c = 0; c <= 16; c++) {
            dueAny(x, c, 0, 0, 1);
            dueAny(x, c, 9, 0, 1);
            dueAny(x, c, 9, 8, 9);
            dueAny(x, c, 9, 9, 10);
            dueAny(x, c, 9, 19, 10);
        }
        // What is told behind the last of them rains for certain.
        for (int last = 0; last <= 8; last++) {
            dueAny(x, 1, last, last, last + 1);
            dueChance(x, 1, last, last + 1, 1, 1);
            dueChance(x, 0, last, 19, 1, 1);
        }
        dueChance(x, 0, 9, 19, 0, 1);
        dueChance(Check.wall("000k1a;000k1b", "0".repeat(19) + "1", "a"), 0, 9, 18, 0, 1);
        dueChance(Check.wall("000k1a;000k1b", "0".repeat(19) + "1", "a"), 0, 9, 19, 1, 1);
        dueChance(new PosterWall(), 0, 0, 0, 0, 1);

        E.says("BAD. (As the least long.)");
        E.outside("c", 0, 16, Edges::some, (y, n) -> y.shower(n, 0, 0, 0), LONG_BAD);
        E.outside("last", 0, 9, Edges::some, (y, n) -> y.shower(0, n, 0, 0), LONG_BAD);
        E.outside("a day", 0, 19, Edges::some, (y, n) -> y.shower(0, 0, n, 0), LONG_BAD);
        E.outside("what", 0, 1, Edges::some, (y, n) -> y.shower(0, 0, 0, n), LONG_BAD);
        E.outside("c without anything", 0, 16, PosterWall::new, (y, n) -> y.shower(n, 0, 0, 0), LONG_BAD);
    }

    private static void season() {
        E.says("Promise 27: SEASON: on how many (what = 0), how many are UNREAD (1).");
        PosterWall always = Check.wall("000k1a;000k9b", "", "b");
        // Rain of 9 alone goes through b; without rain it bleaches in nine days.
        due("no lots: nine dry days", always.season(5, 0, 0), 9);
        due("a is unread", always.season(5, 0, 1), 1);
        int s = 5;
        int dry = 0;
        int obeyed = 0;
        int through = 0;
        for (int day = 0; day < 20; day++) {
            s = 1103515245 * s + 12345;
            int rain = (s >>> 16) % 10;
            if (rain == 9) through++;
            else if (dry < 9) obeyed++;
            if (rain == 0) dry++;
        }
        due("twenty lots", always.season(5, 20, 0), obeyed);
        due("read by twenty lots", always.season(5, 20, 1), through > 0 ? 0 : 1);
        due("seven unread", Check.wall(EIGHT, "", "").season(5, 0, 1), 7);
        for (int seed : new int[] {LEAST, LEAST + 1, -1, 0, 1, GREATEST}) {
            due("no posters", new PosterWall().season(seed, 20, 1), 0);
            due("no law", Check.wall("000k1a", "", "").season(seed, 20, 0), 0);
            due("no lots, any seed", always.season(seed, 0, 0), 9);
        }

        E.says("BAD.");
        E.outside("n", 0, 20, Edges::some, (x, n) -> x.season(0, n, 0), BAD);
        E.outside("what", 0, 1, Edges::some, (x, n) -> x.season(0, 0, n), BAD);
    }
}
