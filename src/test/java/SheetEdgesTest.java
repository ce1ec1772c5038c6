import java.math.BigInteger;

/** The edges that promises 28 to 35 name, sentence by sentence. */
public final class SheetEdgesTest {
    private static final Edges E = new Edges("SheetEdgesTest", "## Promise 28:", "## Not promised");
    private static final int NONE = PosterWall.NONE, BAD = PosterWall.BAD;
    private static final int NULL = -11, INDEX = -12, CAST = -13, STORE = -14, SIZE = -15;
    private static final int LEAST = Integer.MIN_VALUE, GREATEST = Integer.MAX_VALUE;

    private static void due(String call, long got, long want) {
        E.due(call, got, want);
    }

    public static void main(String[] args) {
        sheet();
        lose();
        lay();
        get();
        copy();
        copyRefused();
        write();
        count();
        digest();
        E.end();
    }

    /** SHEETS 0 and 1 of one FORM with 5 and 3 items, 1 on and 11 on; SHEET 2 of another; SHEET 3 is LOST. */
    private static PosterWall rows(int form) {
        PosterWall x = new PosterWall();
        x.sheet(0, form, 5);
        x.sheet(1, form, 3);
        x.sheet(2, (form + 1) % 3, 5);
        for (int i = 0; i < 5; i++) x.lay(0, form, i, 1 + i);
        for (int i = 0; i < 3; i++) x.lay(1, form, i, 11 + i);
        return x;
    }

    private static void dueItems(PosterWall x, int s, int form, int... want) {
        for (int i = 0; i < want.length; i++) due("item " + i + " of " + s, x.get(s, form, i), want[i]);
    }

    private static void sheet() {
        E.says("Promise 28: A SHEET is a new row of a FORM with n items: n.");
        for (int s = 0; s < 4; s++) {
            for (int form = 0; form < 3; form++) {
                PosterWall x = new PosterWall();
                due("the least", x.sheet(s, form, 0), 0);
                due("the greatest", x.sheet(s, form, 60), 60);
                due("the last item", x.lay(s, form, 59, 7), 1);
                due("one less", x.sheet(s, form, 59), 59);
                due("its last item is new", x.get(s, form, 58), 0);
                due("the sixtieth is gone", x.lay(s, form, 59, 7), INDEX);
                due("all again", x.sheet(s, form, 60), 60);
                due("the sixtieth is new", x.get(s, form, 59), 0);
                due("of another form", x.sheet(s, (form + 1) % 3, 1), 1);
                due("as of the old form", x.lay(s, form, 0, 7), CAST);
                due("how many", x.lose(s), 1);
            }
        }

        E.says("BAD: SHEET, FORM, above 60;");
        E.outside("a sheet", 0, 3, Edges::some, (x, n) -> x.sheet(n, 0, 1), BAD);
        E.outside("a form", 0, 2, Edges::some, (x, n) -> x.sheet(0, n, 1), BAD);
        for (int n : new int[] {61, 62, GREATEST}) E.refused("above 60", Edges::some, x -> x.sheet(0, 0, n), BAD);
        E.refused("no such sheet, below 0", Edges::some, x -> x.sheet(4, 0, -1), BAD);
        E.refused("no such form, below 0", Edges::some, x -> x.sheet(0, -1, -1), BAD);

        E.says("SIZE.");
        for (int n : new int[] {-1, -60, LEAST}) {
            E.refused("below 0", Edges::some, x -> x.sheet(0, 0, n), SIZE);
            E.refused("below 0, of a lost one", Edges::some, x -> x.sheet(3, 2, n), SIZE);
        }
    }

    private static void lose() {
        E.says("Promise 29: It is LOST: how many items it had.");
        for (int s = 0; s < 4; s++) {
            for (int n : new int[] {0, 1, 59, 60}) {
                PosterWall x = new PosterWall();
                x.sheet(s, 1, n);
                due("how many", x.lose(s), n);
                due("lost", x.lose(s), NULL);
                due("a new one", x.sheet(s, 1, 2), 2);
                due("how many", x.lose(s), 2);
            }
        }
        PosterWall others = Edges.some();
        others.lose(1);
        due("others stay", others.get(0, 0, 0) * 10 + others.get(2, 2, 0), 79);

        E.says("BAD;");
        E.outside("a sheet", 0, 3, Edges::some, (x, n) -> x.lose(n), BAD);

        E.says("NULL.");
        for (int s = 0; s < 4; s++) {
            int which = s;
            E.refused("lost at first", PosterWall::new, x -> x.lose(which), NULL);
            E.refused("lost again", () -> {
                PosterWall x = Edges.some();
                x.sheet(which, 0, 1);
                x.lose(which);
                return x;
            }, x -> x.lose(which), NULL);
        }
    }

    private static void dueLaid(int form, int v, int want) {
        PosterWall x = new PosterWall();
        x.sheet(0, form, 3);
        due("lay", x.lay(0, form, 1, v), 1);
        dueItems(x, 0, form, 0, want, 0);
    }

    private static void lay() {
        E.says("Promise 30: Item i, treated as of a FORM, becomes v (the lowest bits that it has): 1.");
        int[] values = {0, 1, -1, 127, 128, 129, 255, 256, -128, -129, -256, 32767, 32768, 65535, 65536, -32768, -32769,
            0x12345678, 0x89abcdef, GREATEST, LEAST};
        for (int v : values) {
            // As bits are told in Java's book: what is above is cut off, and the first of those left is the sign.
            BigInteger bits = BigInteger.valueOf(v);
            dueLaid(0, v, bits.byteValue());
            dueLaid(1, v, bits.shortValue());
            dueLaid(2, v, v);
        }
        dueLaid(0, 128, -128);
        dueLaid(0, -129, 127);
        dueLaid(1, 32768, -32768);
        dueLaid(1, -32769, 32767);
        PosterWall ends = new PosterWall();
        ends.sheet(3, 2, 60);
        due("the first", ends.lay(3, 2, 0, 5), 1);
        due("the last", ends.lay(3, 2, 59, 6), 1);
        due("both", ends.get(3, 2, 0) * 10 + ends.get(3, 2, 59), 56);

        E.says("BAD;");
        E.outside("a sheet", 0, 3, Edges::some, (x, n) -> x.lay(n, 0, 0, 1), BAD);
        E.outside("a form", 0, 2, Edges::some, (x, n) -> x.lay(0, n, 0, 1), BAD);
        E.outside("a form, of a lost one", 0, 2, Edges::some, (x, n) -> x.lay(3, n, 0, 1), BAD);

        E.says("NULL;");
        for (int form = 0; form < 3; form++) {
            int as = form;
            E.refused("a lost one", Edges::some, x -> x.lay(3, as, 0, 1), NULL);
            E.refused("a lost one, no such item", Edges::some, x -> x.lay(3, as, -1, 1), NULL);
        }

        E.says("CAST;");
        E.refused("another form", Edges::some, x -> x.lay(0, 1, 0, 1), CAST);
        E.refused("another form, no such item", Edges::some, x -> x.lay(1, 0, 4, 1), CAST);
        E.refused("another form, no such item", Edges::some, x -> x.lay(2, 0, LEAST, 1), CAST);

        E.says("INDEX.");
        E.outside("of three items", 0, 2, Edges::some, (x, n) -> x.lay(0, 0, n, 1), INDEX);
        E.outside("of five items", 0, 4, Edges::some, (x, n) -> x.lay(2, 2, n, 1), INDEX);
        PosterWall none = new PosterWall();
        none.sheet(0, 0, 0);
        due("of none", none.lay(0, 0, 0, 1), INDEX);
    }

    private static void get() {
        E.says("Promise 31: Item i of it.");
        for (int form = 0; form < 3; form++) {
            PosterWall x = rows(form);
            dueItems(x, 0, form, 1, 2, 3, 4, 5);
            dueItems(x, 1, form, 11, 12, 13);
            due("no finding", x.count(8), 0);
        }
        PosterWall least = new PosterWall();
        least.sheet(0, 2, 1);
        least.lay(0, 2, 0, LEAST);
        due("the least int may be an item", least.get(0, 2, 0), LEAST);
        due("that is no finding", least.count(8), 0);

        E.says("BAD: the least int;");
        for (int n : new int[] {-1, 4, LEAST, GREATEST}) {
            E.refused("a sheet", Edges::some, x -> x.get(n, 0, 0), LEAST, 0);
        }
        for (int n : new int[] {-1, 3, LEAST, GREATEST}) {
            E.refused("a form", Edges::some, x -> x.get(0, n, 0), LEAST, 0);
            E.refused("a form, of a lost one", Edges::some, x -> x.get(3, n, 0), LEAST, 0);
        }

        E.says("so are NULL, CAST, INDEX (count() 8 tells).");
        E.refused("null", Edges::some, x -> x.get(3, 0, 0), LEAST, 1);
        E.refused("null ahead of index", Edges::some, x -> x.get(3, 2, 99), LEAST, 1);
        E.refused("cast", Edges::some, x -> x.get(0, 1, 0), LEAST, 3);
        E.refused("cast ahead of index", Edges::some, x -> x.get(0, 2, 3), LEAST, 3);
        for (int n : new int[] {-1, 3, LEAST, GREATEST}) E.refused("index", Edges::some, x -> x.get(0, 0, n), LEAST, 2);
    }

    private static void copy() {
        E.says("Promise 32: n items of SHEET s, from i on, come to SHEET t (perhaps s, as they were), from j on: 1.");
        for (int form = 0; form < 3; form++) {
            PosterWall x = rows(form);
            due("all of the one", x.copy(1, 0, 0, 0, 3), 1);
            dueItems(x, 0, form, 11, 12, 13, 4, 5);
            dueItems(x, 1, form, 11, 12, 13);
            x = rows(form);
            due("to the end", x.copy(1, 0, 0, 2, 3), 1);
            dueItems(x, 0, form, 1, 2, 11, 12, 13);
            x = rows(form);
            due("from the end", x.copy(0, 4, 1, 2, 1), 1);
            dueItems(x, 1, form, 11, 12, 5);
            x = rows(form);
            due("up in itself", x.copy(0, 0, 0, 1, 4), 1);
            dueItems(x, 0, form, 1, 1, 2, 3, 4);
            x = rows(form);
            due("down in itself", x.copy(0, 1, 0, 0, 4), 1);
            dueItems(x, 0, form, 2, 3, 4, 5, 5);
            x = rows(form);
            due("all onto itself", x.copy(0, 0, 0, 0, 5), 1);
            due("none", x.copy(0, 0, 1, 0, 0), 1);
            due("none at both ends", x.copy(0, 5, 1, 3, 0), 1);
            dueItems(x, 0, form, 1, 2, 3, 4, 5);
            dueItems(x, 1, form, 11, 12, 13);
            due("no finding", x.count(8), 0);
        }
        PosterWall most = new PosterWall();
        most.sheet(2, 1, 60);
        most.sheet(3, 1, 60);
        most.lay(2, 1, 59, -7);
        due("sixty", most.copy(2, 0, 3, 0, 60), 1);
        due("the last", most.get(3, 1, 59), -7);
        PosterWall empty = new PosterWall();
        empty.sheet(0, 1, 0);
        due("none of none", empty.copy(0, 0, 0, 0, 0), 1);
    }

    private static void copyRefused() {
        E.says("BAD: the SHEETS;");
        E.outside("from", 0, 3, Edges::some, (x, n) -> x.copy(n, 0, 0, 0, 1), BAD);
        E.outside("to", 0, 3, Edges::some, (x, n) -> x.copy(0, 0, n, 0, 1), BAD);
        E.outside("to, from a lost one", 0, 3, Edges::some, (x, n) -> x.copy(3, 0, n, 0, 1), BAD);
        E.outside("from, to a lost one", 0, 3, Edges::some, (x, n) -> x.copy(n, 0, 3, 0, 1), BAD);

        E.says("NULL: s, t;");
        E.refused("s", Edges::some, x -> x.copy(3, 0, 0, 0, 1), NULL);
        E.refused("t", Edges::some, x -> x.copy(0, 0, 3, 0, 1), NULL);
        E.refused("both", Edges::some, x -> x.copy(3, 0, 3, 0, 1), NULL);
        E.refused("s, none, no such place", Edges::some, x -> x.copy(3, LEAST, 0, GREATEST, 0), NULL);
        E.refused("t, none, no such place", Edges::some, x -> x.copy(0, LEAST, 3, GREATEST, 0), NULL);

        E.says("STORE;");
        E.refused("unlike forms", Edges::some, x -> x.copy(0, 0, 1, 0, 1), STORE);
        E.refused("unlike forms, the wider to the narrower", Edges::some, x -> x.copy(2, 0, 0, 0, 1), STORE);
        E.refused("unlike forms, none", Edges::some, x -> x.copy(0, 0, 2, 0, 0), STORE);
        E.refused("unlike forms, below 0", Edges::some, x -> x.copy(0, -1, 2, -1, -1), STORE);
        E.refused("unlike forms, not so many", Edges::some, x -> x.copy(1, 0, 2, 0, 99), STORE);

        E.says("INDEX: below 0, not so many.");
        int[][] off = {{-1, 0, 1}, {0, -1, 1}, {0, 0, -1}, {-1, 0, 0}, {0, -1, 0}, {LEAST, 0, 1}, {0, LEAST, 1}, {0, 0, LEAST},
            {0, 0, 4}, {3, 0, 3}, {0, 1, 3}, {5, 0, 1}, {0, 3, 1}, {6, 0, 0}, {0, 4, 0}, {GREATEST, 0, 0}, {0, GREATEST, 0},
            {0, 0, GREATEST}, {1, 0, GREATEST}, {0, 1, GREATEST}, {GREATEST, 0, 1}, {0, GREATEST, 1},
            {GREATEST, GREATEST, GREATEST}, {LEAST, LEAST, LEAST}, {GREATEST, 0, LEAST}};
        for (int form = 0; form < 3; form++) {
            int as = form;
            for (int[] o : off) {
                E.refused("copy " + o[0] + " " + o[1] + " " + o[2], () -> rows(as), x -> x.copy(0, o[0], 1, o[1], o[2]), INDEX);
            }
            E.refused("in itself, one too many", () -> rows(as), x -> x.copy(0, 1, 0, 0, 5), INDEX);
            E.refused("in itself, one too far", () -> rows(as), x -> x.copy(0, 0, 0, 1, 5), INDEX);
        }
    }

    private static void write() {
        E.says("Promise 33: What is READ on a DAY at COLUMNS 0 on (NONE) comes to a SHEET from item 0 on, as many as there are"
            + " items, 6 at most: how many.");
        int[] read = {0, 7, NONE, NONE, NONE, 1};
        for (int form = 0; form < 3; form++) {
            for (int n = 0; n <= 8; n++) {
                PosterWall x = Check.wall("000k9ah;005k9b", "", "");
                x.sheet(3, form, n);
                for (int i = 0; i < n; i++) x.lay(3, form, i, 99);
                due("how many", x.write(0, 3), Math.min(6, n));
                for (int i = 0; i < n; i++) due("item " + i, x.get(3, form, i), i < 6 ? read[i] : 99);
            }
        }
        PosterWall days = Check.wall("190k9c", "", "");
        days.sheet(0, 0, 60);
        due("the last day", days.write(19, 0), 6);
        due("c", days.get(0, 0, 0), 2);
        due("the day ahead", days.write(18, 0), 6);
        due("nothing", days.get(0, 0, 0), NONE);
        due("the seventh is as it was", days.get(0, 0, 6), 0);

        E.says("BAD;");
        E.outside("a day", 0, 19, Edges::some, (x, n) -> x.write(n, 0), BAD);
        E.outside("a day, to a lost one", 0, 19, Edges::some, (x, n) -> x.write(n, 3), BAD);
        E.outside("a sheet", 0, 3, Edges::some, (x, n) -> x.write(0, n), BAD);

        E.says("NULL.");
        E.refused("a lost one", Edges::some, x -> x.write(0, 3), NULL);
        E.refused("a lost one, the last day", Edges::some, x -> x.write(19, 3), NULL);
    }

    private static void dueCounts(PosterWall x, int... want) {
        for (int what = 0; what < want.length; what++) due("count " + what, x.count(what), want[what]);
    }

    private static void count() {
        E.says("Promise 34: 0 POSTERS, 1 RAINS told, 2 letters of THE LAW (but .), 3 to 5 bytes of texts, 6 TEARS, 7 SEEN, 8 the"
            + " number of the latest FINDING (0 before any).");
        dueCounts(new PosterWall(), 0, 0, 0, 0, 0, 0, 0, 0, 0);
        dueCounts(Edges.full(), 8, 20, 6, 79, 20, 6, 8, 8, 0);
        dueCounts(Check.wall("", "0", "......"), 0, 1, 0, 0, 1, 6, 0, 0, 0);
        dueCounts(Check.wall("", "", ".a...h"), 0, 0, 2, 0, 0, 6, 0, 0, 0);
        dueCounts(Check.wall("000k1a;", "00x", "aax"), 0, 0, 0, 7, 3, 3, 0, 0, 0);
        PosterWall x = Edges.some();
        int[] answers = {x.sheet(0, 0, -1), x.copy(0, 0, 1, 0, 1), x.lay(0, 1, 0, 0), x.lay(0, 0, 9, 0), x.lose(3)};
        due("all found", answers[0] + answers[1] + answers[2] + answers[3] + answers[4], SIZE + STORE + CAST + INDEX + NULL);
        dueCounts(x, 2, 4, 2, 14, 4, 3, 2, 1, 1);

        E.says("BAD.");
        E.outside("what", 0, 8, Edges::some, (y, n) -> y.count(n), BAD);
        E.outside("what, of a new one", 0, 8, PosterWall::new, (y, n) -> y.count(n), BAD);
    }

    private static void digest() {
        E.says("Promise 35: h is 17; h becomes 31 h and each of: count() 0 to 7; of texts fault(); of DAYS 0, 4, 9, 19 rain(),"
            + " obeyed(), rip(it, NONE), rip(it, 0), wet(), of COLUMNS at(the DAY, it, 0 to 5); of COLUMNS law(); of POSTERS"
            + " poster() 0 to 8, paste() 0, 1, stick() 0 to 2, was() 0, 1, ask(); days() 0, 1, unread(), often(), never(),"
            + " shower(5, 7, 19), above, below, season(7, 15, 0 and 1);");
        due("a new object", new PosterWall().digest(), composed(new PosterWall()).longValue());
        due("some", Edges.some().digest(), composed(Edges.some()).longValue());
        due("full", Edges.full().digest(), composed(Edges.full()).longValue());
        due("faults", Check.wall("0", "x", "y").digest(), composed(Check.wall("0", "x", "y")).longValue());
        due("obeyed", obeyed().digest(), composed(obeyed()).longValue());
        due("by chance", byChance().digest(), composed(byChance()).longValue());
        // By a tear at column 1; by rain up to day 7 and on day 8; on day 19 alone; by the fifteenth lot of a season and
        // by the dry days behind it.
        String[][] others = {{"001k9a;001k9b;002k9a", "01", ".aa"}, {"000k2a;000k2b", "33333333", "a"},
            {"000k2a;000k2b", "000000003", "a"}, {"190k9a", "", "a"}, {"140k9a;140k1b", "", "a"},
            {"150k9a;150k2b", "", "b"}};
        for (String[] o : others) {
            PosterWall other = Check.wall(o[0], o[1], o[2]);
            due("of " + o[0], other.digest(), composed(other).longValue());
        }
        PosterWall found = Edges.some();
        found.lose(3);
        found.lay(0, 0, 0, 1);
        due("not of findings nor of sheets", found.digest(), Edges.some().digest());
        PosterWall twice = Edges.full();
        due("it changes nothing", twice.digest(), twice.digest());
        // What each call tells is in it: one thing more of each kind makes it another.
        for (int how = 0; how < 5; how++) {
            due("change " + how + " is told", changed(how) != Edges.some().digest() ? 1 : 0, 1);
        }

        E.says("as longs that wrap.");
        BigInteger long64 = BigInteger.ONE.shiftLeft(64);
        for (PosterWall x : new PosterWall[] {new PosterWall(), Edges.some(), Edges.full()}) {
            BigInteger whole = composed(x);
            due("it is far above a long", whole.abs().compareTo(long64) > 0 ? 1 : 0, 1);
            BigInteger wrapped = whole.mod(long64);
            if (wrapped.testBit(63)) wrapped = wrapped.subtract(long64);
            due("its lowest 64 bits", x.digest(), wrapped.longValueExact());
        }
    }

    /** Most of what is told in a digest is neither 0 nor 1 here. */
    private static PosterWall obeyed() {
        PosterWall x = Check.wall("000k1a;000k1b;041k3cc;042k2dd;090k1b;185k1e;190k4f", "10151022070000000023", "b");
        x.tear(4, 0);
        x.tear(9, 1);
        x.seen(9, 0, 1);
        return x;
    }

    private static PosterWall byChance() {
        PosterWall x = Check.wall("000r1ab;000k4cd;040y3aa;090r2c", "3421001050000000041", "c");
        x.tear(1, 0);
        x.tear(4, 0);
        return x;
    }

    private static long changed(int how) {
        PosterWall x = Edges.some();
        if (how == 0) x.type(0, 'h');
        if (how == 1) x.type(1, '0');
        if (how == 2) x.type(2, '.');
        if (how == 3) x.tear(19, 5);
        if (how == 4) x.seen(0, 0, 0);
        return x.digest();
    }

    /** As one number without an end, of which a long has the lowest bits. */
    private static BigInteger composed(PosterWall x) {
        Sum h = new Sum();
        for (int what = 0; what <= 7; what++) h.and(x.count(what));
        for (int text = 0; text < 3; text++) h.and(x.fault(text));
        for (int day : new int[] {0, 4, 9, 19}) {
            h.and(x.rain(day), x.obeyed(day), x.rip(day, NONE), x.rip(day, 0), x.wet(day));
            for (int c = 0; c < 6; c++) for (int what = 0; what <= 5; what++) h.and(x.at(day, c, what));
        }
        for (int c = 0; c < 6; c++) h.and(x.law(c));
        for (int p = 0; p < x.count(0); p++) {
            for (int what = 0; what <= 8; what++) h.and(x.poster(p, what));
            h.and(x.paste(p, 0), x.paste(p, 1), x.stick(p, 0), x.stick(p, 1), x.stick(p, 2));
            h.and(x.was(p, 0), x.was(p, 1), x.ask(p));
        }
        h.and(x.days(0), x.days(1), x.unread(), x.often(), x.never());
        h.and(x.shower(5, 7, 19, 0), x.shower(5, 7, 19, 1), x.season(7, 15, 0), x.season(7, 15, 1));
        return h.value;
    }

    private static final class Sum {
        BigInteger value = BigInteger.valueOf(17);

        void and(long... terms) {
            for (long term : terms) value = value.multiply(BigInteger.valueOf(31)).add(BigInteger.valueOf(term));
        }
    }
}
