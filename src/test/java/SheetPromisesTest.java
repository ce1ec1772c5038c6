/** Promises 28 to 35: sheets. */
public final class SheetPromisesTest {
    private static final Check CHECK = new Check("SheetPromisesTest");
    private static final int BAD = PosterWall.BAD, LEAST = Integer.MIN_VALUE;
    private static final int NULL = -11, INDEX = -12, CAST = -13, STORE = -14, SIZE = -15;

    private static void due(String call, long got, long want) {
        CHECK.due(call, got, want);
    }

    public static void main(String[] args) {
        sheet();
        lose();
        lay();
        get();
        copy();
        write();
        count();
        digest();
        CHECK.end();
    }

    private static void sheet() {
        CHECK.promise("28");
        PosterWall wall = new PosterWall();
        for (int s = 0; s < 4; s++) due("sheet", wall.sheet(s, s % 3, 15 * s), 15 * s);
        due("the greatest", wall.sheet(0, 2, 60), 60);
        due("its last item", wall.get(0, 2, 59), 0);
        wall.lay(0, 2, 5, 77);
        due("above 60", wall.sheet(0, 2, 61), BAD);
        due("far above", wall.sheet(0, 2, Integer.MAX_VALUE), BAD);
        due("no such sheet", wall.sheet(-1, 2, 6), BAD);
        due("no such sheet", wall.sheet(4, 2, 6), BAD);
        due("no such form", wall.sheet(0, -1, 6), BAD);
        due("no such form", wall.sheet(0, 3, 6), BAD);
        due("bad ahead of size", wall.sheet(0, 3, -1), BAD);
        due("no finding yet", wall.count(8), 0);
        due("below 0", wall.sheet(0, 1, -1), SIZE);
        due("the finding", wall.count(8), 5);
        due("far below", wall.sheet(0, 1, Integer.MIN_VALUE), SIZE);
        due("as it was", wall.get(0, 2, 5), 77);
        due("a new row", wall.sheet(0, 2, 6), 6);
        due("0 at first", wall.get(0, 2, 5), 0);
        due("no more items", wall.lay(0, 2, 6, 1), INDEX);
        due("a new form", wall.sheet(0, 1, 6), 6);
        due("of that form", wall.get(0, 1, 5), 0);
    }

    private static void lose() {
        CHECK.promise("29");
        PosterWall wall = new PosterWall();
        due("lost at first", wall.lose(3), NULL);
        due("the finding", wall.count(8), 1);
        wall.sheet(3, 0, 7);
        wall.sheet(2, 0, 0);
        due("how many it had", wall.lose(3), 7);
        due("lost again", wall.lose(3), NULL);
        due("it had none", wall.lose(2), 0);
        due("-1", wall.lose(-1), BAD);
        due("4", wall.lose(4), BAD);
        wall.sheet(3, 0, 7);
        due("a new one", wall.lose(3), 7);
    }

    private static void lay() {
        CHECK.promise("30");
        PosterWall wall = new PosterWall();
        for (int form = 0; form < 3; form++) wall.sheet(form, form, 3);
        int[][] want = {{127, 127, 127, 127}, {128, -128, 128, 128}, {255, -1, 255, 255}, {256, 0, 256, 256},
            {32767, -1, 32767, 32767}, {32768, 0, -32768, 32768}, {-129, 127, -129, -129}, {-32769, -1, 32767, -32769},
            {Integer.MAX_VALUE, -1, -1, Integer.MAX_VALUE}, {Integer.MIN_VALUE, 0, 0, Integer.MIN_VALUE}};
        for (int[] w : want) {
            for (int form = 0; form < 3; form++) {
                due("lay", wall.lay(form, form, 2, w[0]), 1);
                due("item of form " + form, wall.get(form, form, 2), w[1 + form]);
                due("the one ahead", wall.get(form, form, 1), 0);
            }
        }
        due("no such sheet", wall.lay(-1, 0, 0, 0), BAD);
        due("no such sheet", wall.lay(4, 0, 0, 0), BAD);
        due("no such form", wall.lay(0, -1, 0, 0), BAD);
        due("no such form", wall.lay(3, 3, 0, 0), BAD);
        due("no finding yet", wall.count(8), 0);
        due("null ahead of others", wall.lay(3, 1, 9, 0), NULL);
        due("the finding", wall.count(8), 1);
        due("cast ahead of index", wall.lay(0, 1, 9, 0), CAST);
        due("the finding", wall.count(8), 3);
        due("index", wall.lay(0, 0, 3, 0), INDEX);
        due("the finding", wall.count(8), 2);
        int[] bad = {-1, 3, 60, Integer.MIN_VALUE, Integer.MAX_VALUE};
        for (int b : bad) due("index", wall.lay(0, 0, b, 0), INDEX);
    }

    private static void get() {
        CHECK.promise("31");
        PosterWall wall = new PosterWall();
        wall.sheet(1, 1, 2);
        wall.lay(1, 1, 1, -5);
        due("item", wall.get(1, 1, 1), -5);
        due("0 at first", wall.get(1, 1, 0), 0);
        int[][] bad = {{-1, 0}, {4, 0}, {1, -1}, {1, 3}};
        for (int[] b : bad) due("bad", wall.get(b[0], b[1], 0), LEAST);
        due("that is no finding", wall.count(8), 0);
        int[][] findings = {{0, 1, 9, 1}, {1, 2, 9, 3}, {1, 0, 0, 3}, {1, 1, 2, 2}, {1, 1, -1, 2}};
        for (int[] f : findings) {
            due("get", wall.get(f[0], f[1], f[2]), LEAST);
            due("the finding", wall.count(8), f[3]);
        }
        due("item", wall.get(1, 1, 1), -5);
        due("the latest stays", wall.count(8), 2);
    }

    private static PosterWall rows() {
        PosterWall wall = new PosterWall();
        wall.sheet(0, 2, 6);
        wall.sheet(1, 2, 4);
        wall.sheet(2, 1, 6);
        for (int i = 0; i < 6; i++) wall.lay(0, 2, i, 10 + i);
        return wall;
    }

    private static void dueItems(PosterWall wall, int s, int... want) {
        for (int i = 0; i < want.length; i++) due("item " + i, wall.get(s, 2, i), want[i]);
    }

    private static void copy() {
        CHECK.promise("32");
        PosterWall wall = rows();
        due("copy", wall.copy(0, 1, 1, 2, 2), 1);
        dueItems(wall, 1, 0, 0, 11, 12);
        dueItems(wall, 0, 10, 11, 12, 13, 14, 15);
        due("onto itself, up", wall.copy(0, 0, 0, 2, 4), 1);
        dueItems(wall, 0, 10, 11, 10, 11, 12, 13);
        due("onto itself, down", wall.copy(0, 1, 0, 0, 5), 1);
        dueItems(wall, 0, 11, 10, 11, 12, 13, 13);
        due("none at the ends", wall.copy(0, 6, 1, 4, 0), 1);
        due("no such sheet", wall.copy(-1, 0, 0, 0, 0), BAD);
        due("no such sheet", wall.copy(4, 0, 0, 0, 0), BAD);
        due("no such sheet", wall.copy(0, 0, -1, 0, 0), BAD);
        due("no such sheet", wall.copy(0, 0, 4, 0, 0), BAD);
        due("bad ahead of null", wall.copy(3, 0, 4, 0, 0), BAD);
        due("no finding yet", wall.count(8), 0);
        due("null", wall.copy(3, 0, 0, 0, 1), NULL);
        due("null", wall.copy(0, 0, 3, 0, 1), NULL);
        due("the finding", wall.count(8), 1);
        due("store ahead of index", wall.copy(0, -1, 2, 99, 1), STORE);
        due("the finding", wall.count(8), 4);
        int most = Integer.MAX_VALUE;
        int[][] off = {{-1, 0, 1}, {0, -1, 1}, {0, 0, -1}, {5, 0, 2}, {0, 3, 2}, {7, 0, 0}, {0, 5, 0}, {0, 0, 5},
            {most, 0, most}, {0, most, most}, {1, 1, most}, {most, most, 0}, {Integer.MIN_VALUE, 0, 1}};
        for (int[] o : off) {
            due("index", wall.copy(0, o[0], 1, o[1], o[2]), INDEX);
            due("the finding", wall.count(8), 2);
        }
        dueItems(wall, 0, 11, 10, 11, 12, 13, 13);
        dueItems(wall, 1, 0, 0, 11, 12);
    }

    private static void write() {
        CHECK.promise("33");
        for (int form = 0; form < 3; form++) {
            PosterWall wall = Check.wall("001k9hg;014k9c", "", "");
            wall.sheet(0, form, 9);
            wall.lay(0, form, 6, 55);
            due("six at most", wall.write(1, 0), 6);
            int[] want = {-1, 7, 6, -1, 2, -1, 55, 0, 0};
            for (int i = 0; i < 9; i++) due("item " + i, wall.get(0, form, i), want[i]);
            wall.sheet(1, form, 3);
            due("as many as there are", wall.write(0, 1), 3);
            due("the last", wall.get(1, form, 2), 6);
            wall.write(19, 1);
            due("without ink", wall.get(1, form, 2), -1);
        }
        PosterWall wall = new PosterWall();
        wall.sheet(0, 1, 0);
        due("none", wall.write(0, 0), 0);
        int[][] bad = {{-1, 0}, {20, 0}, {0, -1}, {0, 4}, {20, 1}};
        for (int[] b : bad) due("write", wall.write(b[0], b[1]), BAD);
        due("no finding yet", wall.count(8), 0);
        due("a lost one", wall.write(19, 1), NULL);
        due("the finding", wall.count(8), 1);
    }

    private static void count() {
        CHECK.promise("34");
        PosterWall wall = Check.wall("000r1a;000r1b", "0123", "a.b.");
        wall.tear(0, 0);
        wall.seen(0, 0, 0);
        wall.seen(0, 0, 1);
        wall.seen(0, 0, 2);
        wall.sheet(0, 0, -1);
        int[] want = {2, 4, 2, 13, 4, 4, 1, 3, 5};
        for (int what = 0; what < 9; what++) due("count " + what, wall.count(what), want[what]);
        wall.type(0, 'x');
        wall.type(1, 'x');
        wall.type(2, 'x');
        int[] faulty = {0, 0, 0, 14, 5, 5, 1, 3, 5};
        for (int what = 0; what < 9; what++) due("count " + what, wall.count(what), faulty[what]);
        due("-1", wall.count(-1), BAD);
        due("9", wall.count(9), BAD);
        wall.lose(0);
        due("the latest", wall.count(8), 1);
    }

    private static void digest() {
        CHECK.promise("35");
        PosterWall wall = Check.wall("000r2ab;011k3c;102y9dd;195k1h", "02900405", "a.d");
        wall.tear(4, 1);
        wall.tear(12, 2);
        wall.seen(0, 0, 0);
        long first = wall.digest();
        due("as it is composed", first, composed(wall));
        due("once more", wall.digest(), first);
        wall.sheet(0, 0, 5);
        wall.lose(1);
        due("whatever sheets and findings", wall.digest(), first);
        wall.type(2, 'x');
        due("with a fault", wall.digest(), composed(wall));
        due("of a new one", new PosterWall().digest(), composed(new PosterWall()));
        PosterWall rich = Check.wall("000k1a;000k1b;041k3cc;042k2dd;090k1b;185k1e;190k4f", "10151022070000000023", "b");
        rich.tear(4, 0);
        rich.tear(9, 1);
        rich.seen(9, 0, 1);
        due("where most is not 0", rich.digest(), composed(rich));
        PosterWall chance = Check.wall("000r1ab;000k4cd;040y3aa;090r2c", "3421001050000000041", "c");
        chance.tear(1, 0);
        chance.tear(4, 0);
        due("where there is a chance", chance.digest(), composed(chance));
        String[][] others = {{"001k9a;001k9b;002k9a", "01", ".aa"}, {"000k2a;000k2b", "33333333", "a"},
            {"000k2a;000k2b", "000000003", "a"}, {"150k9a;150k2b", "", "b"}};
        for (String[] o : others) {
            PosterWall other = Check.wall(o[0], o[1], o[2]);
            due("of " + o[0], other.digest(), composed(other));
        }
    }

    private static long composed(PosterWall x) {
        long h = 17;
        for (int i = 0; i < 8; i++) h = 31 * h + x.count(i);
        for (int text = 0; text < 3; text++) h = 31 * h + x.fault(text);
        for (int day : new int[] {0, 4, 9, 19}) {
            h = 31 * (31 * h + x.rain(day)) + x.obeyed(day);
            h = 31 * (31 * h + x.rip(day, -1)) + x.rip(day, 0);
            h = 31 * h + x.wet(day);
            for (int c = 0; c < 6; c++) for (int what = 0; what < 6; what++) h = 31 * h + x.at(day, c, what);
        }
        for (int c = 0; c < 6; c++) h = 31 * h + x.law(c);
        for (int p = 0; p < x.count(0); p++) {
            for (int what = 0; what < 9; what++) h = 31 * h + x.poster(p, what);
            for (int what = 0; what < 2; what++) h = 31 * h + x.paste(p, what);
            for (int what = 0; what < 3; what++) h = 31 * h + x.stick(p, what);
            for (int what = 0; what < 2; what++) h = 31 * h + x.was(p, what);
            h = 31 * h + x.ask(p);
        }
        h = 31 * (31 * h + x.days(0)) + x.days(1);
        h = 31 * (31 * h + x.unread()) + x.often();
        h = 31 * h + x.never();
        h = 31 * (31 * h + x.shower(5, 7, 19, 0)) + x.shower(5, 7, 19, 1);
        return 31 * (31 * h + x.season(7, 15, 0)) + x.season(7, 15, 1);
    }
}
