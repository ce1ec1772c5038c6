/** The edges that promises 1 to 11 name, sentence by sentence. */
public final class TextEdgesTest {
    private static final Edges E = new Edges("TextEdgesTest", "## Promise 1:", "## Promise 12:");
    private static final int NONE = PosterWall.NONE, BAD = PosterWall.BAD, NOT = PosterWall.NOT, FULL = PosterWall.FULL;
    private static final int NULL = -11;
    private static final int LEAST = Integer.MIN_VALUE, GREATEST = Integer.MAX_VALUE;
    private static final int[] ROOM = {79, 20, 6};

    private static void due(String call, long got, long want) {
        E.due(call, got, want);
    }

    public static void main(String[] args) {
        newObject();
        type();
        wipe();
        undo();
        fault();
        poster();
        rain();
        law();
        tear();
        back();
        read();
        E.end();
    }

    private static void newObject() {
        E.says("Promise 1: No POSTERS,");
        due("posters", new PosterWall().count(0), 0);
        E.refused("poster 0", PosterWall::new, x -> x.poster(0, 0), BAD);
        due("bytes", new PosterWall().wipe(0), 0);

        E.says("no RAINS,");
        due("rains", new PosterWall().count(1), 0);
        due("bytes", new PosterWall().wipe(1), 0);
        for (int day = 0; day < 20; day++) due("rain", new PosterWall().rain(day), 0);

        E.says("no LAW,");
        due("letters", new PosterWall().count(2), 0);
        due("bytes", new PosterWall().wipe(2), 0);
        for (int column = 0; column < 6; column++) due("law", new PosterWall().law(column), NONE);

        E.says("no TEARS;");
        due("tears", new PosterWall().count(6), 0);
        E.refused("back", PosterWall::new, x -> x.back(), NOT);
        due("never", new PosterWall().never(), 0);
        due("nor anything seen", new PosterWall().forget(), 0);

        E.says("all SHEETS are LOST.");
        for (int s = 0; s < 4; s++) {
            int which = s;
            E.refused("sheet " + s, PosterWall::new, x -> x.lose(which), NULL);
        }
        due("no finding yet", new PosterWall().count(8), 0);
        PosterWall one = Edges.full();
        PosterWall other = new PosterWall();
        due("nothing of another object's", other.digest(), new PosterWall().digest());
        due("nor of this one's in the other", one.count(3), 79);
    }

    private static void type() {
        E.says("Promise 2: A byte (0 to 255) comes behind a text: how many.");
        for (int text = 0; text < 3; text++) {
            PosterWall x = new PosterWall();
            due("the first", x.type(text, 0), 1);
            due("behind it", x.type(text, 255), 2);
            for (int i = 3; i <= ROOM[text]; i++) due("the next", x.type(text, 255), i);
        }
        PosterWall order = Check.wall("19", "", "");
        Check.type(order, 1, "12");
        due("the first byte is the first", order.rain(0), 1);
        due("the second is behind it", order.rain(1), 2);
        PosterWall wall = Check.wall("000k1", "", "a");
        due("not ended yet", wall.obeyed(0), 0);
        wall.type(0, 'a');
        due("ended by a byte more", wall.obeyed(0), 1);

        E.says("BAD;");
        for (int text = 0; text < 3; text++) {
            int which = text;
            E.outside("a byte", 0, 255, Edges::some, (x, n) -> x.type(which, n), BAD);
        }
        E.outside("a text", 0, 2, Edges::some, (x, n) -> x.type(n, '0'), BAD);

        E.says("FULL.");
        for (int text = 0; text < 3; text++) {
            int which = text;
            E.refused("text " + text, Edges::full, x -> x.type(which, '0'), FULL);
            E.refused("text " + text + ", bad", Edges::full, x -> x.type(which, -1), BAD);
            E.refused("text " + text + ", bad", Edges::full, x -> x.type(which, 256), BAD);
            PosterWall x = Edges.full();
            due("undone", x.undo(text), ROOM[text] - 1);
            due("room again", x.type(text, '0'), ROOM[text]);
            due("full again", x.type(text, '0'), FULL);
        }
    }

    private static void wipe() {
        E.says("Promise 3: A text is empty: how many bytes it had.");
        for (int text = 0; text < 3; text++) {
            PosterWall x = Edges.full();
            due("all", x.wipe(text), ROOM[text]);
            due("an empty one", x.wipe(text), 0);
            due("bytes", x.count(3 + text), 0);
            due("fault", x.fault(text), NONE);
            for (int other = 0; other < 3; other++) {
                if (other != text) due("another text", x.count(3 + other), ROOM[other]);
            }
            due("room again", x.type(text, '0'), 1);
            due("of one byte", x.wipe(text), 1);
        }
        due("one with a fault", Check.wall("!!", "", "").wipe(0), 2);
        PosterWall x = Edges.full();
        for (int text = 0; text < 3; text++) x.wipe(text);
        due("posters, rains, letters", x.count(0) + x.count(1) + x.count(2), 0);
        due("tears and seen stay", x.count(6) * 10 + x.count(7), 88);
        PosterWall wall = Check.wall("000k1a", "", "a");
        due("ahead of it", wall.obeyed(0), 1);
        wall.wipe(0);
        due("behind it", wall.obeyed(0), 0);

        E.says("BAD.");
        E.outside("a text", 0, 2, Edges::some, (y, n) -> y.wipe(n), BAD);
    }

    private static void undo() {
        E.says("Promise 4: The last byte of a text is undone: how many are left.");
        for (int text = 0; text < 3; text++) {
            PosterWall x = Edges.full();
            for (int left = ROOM[text] - 1; left >= 0; left--) due("left", x.undo(text), left);
            due("an empty one is well", x.fault(text), NONE);
        }
        PosterWall x = Check.wall("000k1ab", "12", "ab");
        due("undone", x.undo(0), 6);
        due("the last letter is gone", x.poster(0, 6), NONE);
        due("the first is not", x.poster(0, 5), 0);
        due("undone", x.undo(1), 1);
        due("the last rain is gone", x.rain(0) * 10 + x.rain(1), 10);
        due("undone", x.undo(2), 1);
        due("the last letter is gone", x.law(0) * 10 + x.law(1), NONE);
        due("a fault", Check.wall("", "1x", "").fault(1), 1);
        PosterWall mended = Check.wall("", "1x", "");
        mended.undo(1);
        due("is undone", mended.fault(1), NONE);
        PosterWall wall = Check.wall("000k1ab", "", "ab");
        due("ahead of it", wall.obeyed(0), 1);
        wall.undo(0);
        due("behind it", wall.obeyed(0), 0);

        E.says("BAD;");
        E.outside("a text", 0, 2, Edges::some, (y, n) -> y.undo(n), BAD);
        E.outside("a text when all are empty", 0, 2, PosterWall::new, (y, n) -> y.undo(n), BAD);

        E.says("NOT: it is empty.");
        for (int text = 0; text < 3; text++) {
            int which = text;
            E.refused("a new one", PosterWall::new, y -> y.undo(which), NOT);
            E.refused("a wiped one", () -> {
                PosterWall y = Edges.some();
                y.wipe(which);
                return y;
            }, y -> y.undo(which), NOT);
        }
    }

    private static void fault() {
        E.says("Promise 5: The FAULT of a text; NONE.");
        for (int text = 0; text < 3; text++) {
            due("of an empty one", new PosterWall().fault(text), NONE);
            due("of a full one", Edges.full().fault(text), NONE);
            PosterWall x = new PosterWall();
            x.type(text, 255);
            due("the first place", x.fault(text), 0);
            PosterWall last = Edges.full();
            last.undo(text);
            last.type(text, 0);
            due("the last place", last.fault(text), ROOM[text] - 1);
            last.undo(text);
            due("well again", last.fault(text), NONE);
        }
        due("an end", Check.wall("000r1abcd;".repeat(7) + "195k9hgf;", "", "").fault(0), 79);

        E.says("BAD.");
        E.outside("a text", 0, 2, Edges::some, (y, n) -> y.fault(n), BAD);
    }

    private static void poster() {
        E.says("Promise 6: The DAY (what = 0), the COLUMN (1), its colour (2: 0 r, 1 y, 2 k), how THICK (3), how many letters"
            + " (4), these (5 to 8; NONE: not so many) of a POSTER.");
        int[][] want = {{0, 0, 0, 1, 1, 0, NONE, NONE, NONE}, {9, 1, 1, 5, 2, 7, 0, NONE, NONE},
            {10, 4, 2, 8, 3, 1, 2, 3, NONE}, {19, 5, 2, 9, 4, 7, 7, 7, 7}};
        PosterWall x = Check.wall("000r1a;091y5ha;104k8bcd;195k9hhhh", "", "");
        for (int p = 0; p < 4; p++) {
            for (int what = 0; what < 9; what++) due("poster(" + p + ", " + what + ")", x.poster(p, what), want[p][what]);
        }
        due("the eighth", Edges.full().poster(7, 0), 19);

        E.says("BAD.");
        E.outside("a poster of two", 0, 1, Edges::some, (y, n) -> y.poster(n, 0), BAD);
        E.outside("a poster of eight", 0, 7, Edges.made("000r1a;".repeat(7) + "000r1a", "", ""), (y, n) -> y.poster(n, 0), BAD);
        E.outside("what", 0, 8, Edges::some, (y, n) -> y.poster(0, n), BAD);
        E.refused("with a fault there is none", Edges.made("000r1a;", "", ""), y -> y.poster(0, 0), BAD);
    }

    private static void rain() {
        E.says("Promise 7: The RAIN of a DAY.");
        PosterWall x = Edges.full();
        due("the first", x.rain(0), 0);
        due("the greatest", x.rain(9), 9);
        due("the last but one", x.rain(18), 1);
        due("the last", x.rain(19), 0);
        due("a day behind those told", Check.wall("", "9", "").rain(1), 0);
        due("with a fault", Check.wall("", "9:", "").rain(0), 0);

        E.says("BAD.");
        E.outside("a day", 0, 19, Edges::full, (y, n) -> y.rain(n), BAD);
        E.outside("a day, without rains", 0, 19, PosterWall::new, (y, n) -> y.rain(n), BAD);
    }

    private static void law() {
        E.says("Promise 8: The letter of THE LAW for a COLUMN; NONE: whatever.");
        PosterWall x = Check.wall("", "", "a.h..h");
        int[] want = {0, NONE, 7, NONE, NONE, 7};
        for (int column = 0; column < 6; column++) due("law " + column, x.law(column), want[column]);
        due("a column behind those told", Check.wall("", "", "a").law(1), NONE);
        due("with a fault", Check.wall("", "", "ai").law(0), NONE);

        E.says("BAD.");
        E.outside("a column", 0, 5, Edges::full, (y, n) -> y.law(n), BAD);
        E.outside("a column, without a law", 0, 5, PosterWall::new, (y, n) -> y.law(n), BAD);
    }

    private static void tear() {
        E.says("Promise 9: A TEAR more: how many.");
        int[][] tears = {{0, 0}, {0, 5}, {19, 0}, {19, 5}, {19, 5}, {1, 1}, {0, 0}, {18, 4}};
        PosterWall x = new PosterWall();
        for (int i = 0; i < 8; i++) due("tear", x.tear(tears[i][0], tears[i][1]), i + 1);
        PosterWall torn = Check.wall("000k9a;005k9b", "", "");
        torn.tear(19, 0);
        due("on its day", torn.at(19, 0, 3), 0);
        due("not ahead of it", torn.at(18, 0, 3), 1);
        due("not torn yet", torn.at(1, 5, 3), 1);
        torn.tear(1, 5);
        due("at its column", torn.at(1, 5, 3), 0);
        due("not at another", torn.at(1, 0, 3), 1);

        E.says("BAD;");
        E.outside("a day", 0, 19, Edges::some, (y, n) -> y.tear(n, 0), BAD);
        E.outside("a column", 0, 5, Edges::some, (y, n) -> y.tear(0, n), BAD);
        E.refused("a bad day behind eight", Edges::full, y -> y.tear(-1, 0), BAD);
        E.refused("a bad column behind eight", Edges::full, y -> y.tear(0, 6), BAD);

        E.says("FULL.");
        E.refused("a ninth", Edges::full, y -> y.tear(0, 0), FULL);
        PosterWall again = Edges.full();
        again.back();
        due("room again", again.tear(19, 5), 8);
        due("full again", again.tear(19, 5), FULL);
    }

    private static void back() {
        E.says("Promise 10: The last TEAR is undone: how many are left.");
        PosterWall x = Edges.full();
        for (int left = 7; left >= 0; left--) due("back", x.back(), left);
        PosterWall y = Check.wall("000k9a;005k9b", "", "");
        y.tear(2, 5);
        y.tear(1, 0);
        due("torn", y.at(1, 0, 3), 0);
        due("the last told, not the last by day", y.back(), 1);
        due("this one is undone", y.at(1, 0, 3), 1);
        due("the other is not", y.at(2, 5, 3), 0);

        E.says("NOT: there is none.");
        E.refused("none at first", PosterWall::new, z -> z.back(), NOT);
        E.refused("none left", () -> {
            PosterWall z = Edges.some();
            z.back();
            z.back();
            return z;
        }, z -> z.back(), NOT);
    }

    /** With SHEET 3 of a FORM, and in it these items. */
    private static PosterWall laid(int form, int... items) {
        PosterWall x = Check.wall("000k9a;000k9b;000k9c", "", "");
        x.sheet(3, form, items.length);
        for (int i = 0; i < items.length; i++) x.lay(3, form, i, items[i]);
        return x;
    }

    private static void dueTears(PosterWall x, int read, int... layers) {
        due("read", x.read(3), read);
        due("tears", x.count(6), read);
        for (int day = 0; day < layers.length; day++) due("layers on " + day, x.at(day, 0, 3), layers[day]);
    }

    private static void read() {
        E.says("Promise 11: TEARS from a SHEET: its items, two for each, as many as are whole,");
        for (int form = 0; form < 3; form++) {
            dueTears(laid(form), 0, 3, 3, 3);
            dueTears(laid(form, 1), 0, 3, 3, 3);
            dueTears(laid(form, 1, 0), 1, 3, 2, 2);
            dueTears(laid(form, 1, 0, 2), 1, 3, 2, 2);
            dueTears(laid(form, 1, 0, 2, 0), 2, 3, 2, 1);
            dueTears(laid(form, 19, 5, 0, 0, 1, 0, 1, 0, 1), 4, 3, 1, 1);
        }

        E.says("as long as each may be: how many.");
        for (int form = 0; form < 3; form++) {
            dueTears(laid(form, 20, 0, 1, 0), 0, 3, 3);
            dueTears(laid(form, 1, 0, 0, 6, 1, 0), 1, 3, 2);
            dueTears(laid(form, 1, 0, -1, 0, 1, 0), 1, 3, 2);
            dueTears(laid(form, 1, 0, 0, -1, 1, 0), 1, 3, 2);
            dueTears(laid(form, 19, 5, 0, 0, 19, 0, 0, 5), 4, 3, 3);
        }
        dueTears(laid(2, 1, 0, LEAST, 0, 1, 0), 1, 3, 2);
        dueTears(laid(2, 1, 0, 0, GREATEST, 1, 0), 1, 3, 2);
        // 256 is 0 as a byte, so it may be.
        dueTears(laid(0, 257, 256), 1, 3, 2);
        dueTears(laid(0, 0, 5, 0, 5, 0, 5, 0, 5, 0, 5, 0, 5, 0, 5, 1, 0, 1, 0), 8, 3, 2);
        PosterWall room = laid(0, 1, 0, 1, 0);
        for (int i = 1; i <= 7; i++) room.tear(0, 5);
        due("room for one", room.read(3), 1);
        due("tears", room.count(6), 8);
        due("no room", room.read(3), 0);
        due("tears", room.count(6), 8);
        due("no finding", room.count(8), 0);
        due("the sheet is as it was", room.get(3, 0, 2), 1);
        due("behind those there are", room.back(), 7);
        due("so the last is from the sheet", room.at(1, 0, 3), 3);

        E.says("BAD;");
        E.outside("a sheet", 0, 3, Edges::some, (x, n) -> x.read(n), BAD);

        E.says("NULL.");
        for (int s = 0; s < 4; s++) {
            int which = s;
            E.refused("a new object's", PosterWall::new, x -> x.read(which), NULL);
        }
        E.refused("a lost one", () -> {
            PosterWall x = Edges.some();
            x.lose(1);
            return x;
        }, x -> x.read(1), NULL);
    }
}
