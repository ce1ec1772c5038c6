import java.util.function.ToLongFunction;

/** What the document says ahead of its face: its head, the wall's columns, and how long an object is used. */
public final class WallEdgesTest {
    private static final Edges E = new Edges("WallEdgesTest", "# PosterWall", "## The public face");
    private static final int NONE = PosterWall.NONE, BAD = PosterWall.BAD;
    private static final String WET = "9".repeat(20);
    private static final int CALLS_OF_SOME = 33, LIFE = 512;

    private static void due(String call, long got, long want) {
        E.due(call, got, want);
    }

    public static void main(String[] args) {
        showsThrough();
        tornAndBleached();
        readTogether();
        texts();
        questions();
        guesses();
        columns();
        life();
        E.end();
    }

    /** What is READ on a DAY, as letters, with a point for nothing. */
    private static void dueWord(PosterWall x, int day, String want) {
        for (int column = 0; column < want.length(); column++) {
            char letter = want.charAt(column);
            due("read on " + day + " at " + column, x.at(day, column, 0), letter == '.' ? NONE : letter - 'a');
        }
    }

    private static void showsThrough() {
        E.says("# PosterWall");
        due("the class bears its name", PosterWall.class.getName().equals("PosterWall") ? 1 : 0, 1);

        E.says("A wall that remembers posters: on one wall in that town each poster shows through the next by so much as it has"
            + " rained,");
        PosterWall four = Check.wall("000k3a;000k3b;000k3c;000k3d", "0123456789", "");
        for (int day = 0; day < 10; day++) due("how deep by a rain of " + day, four.at(day, 0, 2), day / 3);

        E.says("so elections are between the dead,");
        PosterWall dead = Check.wall("000k9a;001k9b;100k2c;111k2d", "1".repeat(15) + "2", "ab");
        dueWord(dead, 14, "cd....");
        dueWord(dead, 15, "ab....");
        due("they are elected again", dead.obeyed(15), 1);

        E.says("a circus has been in love with a soap for years,");
        PosterWall love = Check.wall("000k9ab;042k9cd", WET, "abcd");
        due("since", love.days(1), 4);
        due("for", love.days(0), 16);
    }

    private static void tornAndBleached() {
        E.says("a torn corner brings back a duke,");
        PosterWall torn = Check.wall("000k9abcd;010k9efgh", WET.replace('9', '1'), "");
        due("torn", torn.tear(2, 3), 1);
        dueWord(torn, 1, "efgh..");
        dueWord(torn, 2, "efgd..");

        E.says("layers are counted by the penny at sales,");
        PosterWall sale = Check.wall("000k1a;010k2a;020k3a;030k4a;040k5a;050k6a;060k7a;070k8a", "", "");
        for (int day = 0; day < 20; day++) due("layers on " + day, sale.at(day, 0, 3), Math.min(8, day + 1));

        E.says("sun bleaches red before black,");
        PosterWall sun = Check.wall("000r1a;001y1b;002k1c", "", "");
        for (int day = 0; day < 20; day++) {
            dueWord(sun, day, (day < 3 ? "a" : ".") + (day < 5 ? "b" : ".") + (day < 9 ? "c" : ".") + "...");
        }
    }

    private static void readTogether() {
        E.says("words come together over decades and are obeyed,");
        PosterWall decades = Check.wall("000k9b;101k9a;192k9d", WET, "bad");
        due("the first time", decades.days(1), 19);
        due("once", decades.days(0), 1);

        E.says("a council reads it on Mondays,");
        PosterWall monday = Check.wall("000k9a;071k9b;142k9c", WET, "");
        due("a sheet", monday.sheet(0, 0, 6), 6);
        for (int day = 0; day <= 14; day += 7) {
            due("written down", monday.write(day, 0), 6);
            for (int c = 0; c < 6; c++) due("item " + c + " of " + day, monday.get(0, 0, c), c * 7 <= day && c < 3 ? c : NONE);
        }

        E.says("scraping to a depth is by licence,");
        PosterWall depth = Check.wall("000k9a;000k9b;000k9c;000k9d", WET.replace('9', '1'), "");
        int[] tears = {NONE, 2, 1, 0};
        for (int letter = 0; letter < 4; letter++) {
            depth.wipe(2);
            depth.type(2, 'a' + letter);
            due("tears for letter " + letter, depth.rip(1, NONE), tears[letter]);
        }

        E.says("boys with knives are historians,");
        PosterWall boys = Check.wall("000k9a;000k9b;000k9c;000k9d", WET.replace('9', '1'), "");
        for (int day = 1; day <= 3; day++) due("a knife", boys.tear(day, 0), day);
        for (int day = 0; day <= 3; day++) due("read on " + day, boys.at(day, 0, 0), 3 - day);

        E.says("a bill that was never stuck is seen in wet,");
        // In dry cd is read, by much rain ab; cb, that nobody stuck, by so much as goes through d alone.
        PosterWall never = Check.wall("000k9ab;000k5c;001k2d", "025", "cb");
        dueWord(never, 0, "cd....");
        dueWord(never, 1, "cb....");
        dueWord(never, 2, "ab....");
        due("by which rains", never.wet(0), 1 << 2 | 1 << 3 | 1 << 4);

        E.says("thick paper hides nine;");
        due("by nine of ten rains", Check.wall("000k9a;000k9b", "", "b").wet(0), 511);
    }

    private static void texts() {
        E.says("posters as a text, when, where, of what colour, how thick, with what word;");
        int[] want = {13, 2, 1, 7, 3, 5, 0, 3, NONE};
        PosterWall x = Check.wall("000r1a;132y7fad", "107", "a.h");
        for (int what = 0; what < 9; what++) due("poster(1, " + what + ")", x.poster(1, what), want[what]);

        E.says("rains as a text, day by day;");
        for (int day = 0; day < 20; day++) due("rain " + day, x.rain(day), day == 0 ? 1 : day == 2 ? 7 : 0);

        E.says("the law that is to be read as a text;");
        for (int column = 0; column < 6; column++) due("law " + column, x.law(column), column == 0 ? 0 : column == 2 ? 7 : NONE);

        E.says("what is torn;");
        due("layers", x.at(1, 0, 3), 1);
        due("torn", x.tear(1, 0), 1);
        due("no layer", x.at(1, 0, 3), 0);
    }

    private static void questions() {
        PosterWall x = Check.wall("000k9a;010k3b;010k9c;010k2d", "0019", "b");
        E.says("what is read where on which day, of whose poster, how deep, how many layers there are, how thick they are;");
        int[] wet = {2, 2, 1, 4, 23, 9};
        int[] dry = {0, 0, 0, 1, 9, 9};
        for (int what = 0; what < 6; what++) {
            due("on day 0, " + what, x.at(0, 0, what), dry[what]);
            due("on day 3, " + what, x.at(3, 0, what), wet[what]);
        }

        E.says("when the law is obeyed, what was never read;");
        due("on no day", x.days(0), 0);
        due("b alone was never read", x.unread(), 1 << 1);

        E.says("what must be torn so that it is, by which rains it is, how thick a poster had better be, when and where to stick"
            + " it;");
        due("two tears", x.rip(4, NONE), 2);
        due("at column 0", x.rip(4, 0), 0);
        due("at column 0 again", x.rip(4, 1), 0);
        due("by no rain", x.wet(1), 0);
        // Of the rain of 9 on day 3 c leaves then 2, too little for b; if it is thinner, one looks through b too.
        due("c had better be 5 thick", x.paste(2, 0), 5);
        due("then on one day", x.paste(2, 1), 1);
        due("b on day 0", x.stick(1, 0), 0);
        due("at column 0", x.stick(1, 1), 0);
        due("obeyed on day 0", x.stick(1, 2), 0);
    }

    private static void guesses() {
        PosterWall x = Check.wall("000k9a;010k3b", "1111", "b");
        x.tear(1, 5);
        x.tear(2, 0);
        E.says("what was torn never, how thick one was, of which day, by what was read, the next place to look;");
        due("b was read on day 2", x.seen(2, 0, 1), 1);
        due("so the second tear never was", x.never(), 2);
        due("by no thickness, if it was", x.was(1, 0), 0);
        due("by days 2 and on which comes behind it", x.was(1, 1), 1 << 2);
        due("by one year all places are alike", x.ask(1), 0);

        E.says("showers by chance, exactly;");
        PosterWall chance = Check.wall("000k9a;000k1b", "11", "a");
        due("above", chance.shower(6, 1, 1, 0), 39);
        due("below", chance.shower(6, 1, 1, 1), 64);

        E.says("seasons by a seed;");
        // By 1 the first lot is 16838, a rain of 8.
        due("wet on day 0 alone", chance.season(1, 1, 0), 1);
        due("dry", chance.season(1, 0, 0), 0);

        E.says("what was torn undone.");
        due("undone", x.back(), 1);
        due("b is there on day 2", x.at(2, 0, 0), 1);
        due("undone", x.back(), 0);
    }

    private static void columns() {
        E.says("THE WALL has COLUMNS 0 to 5.");
        PosterWall x = Check.wall("000k1a;005k1h", "", "a....h");
        due("read at 0", x.at(0, 0, 0), 0);
        due("read at 5", x.at(0, 5, 0), 7);
        due("the law at 0", x.law(0), 0);
        due("the law at 5", x.law(5), 7);
        due("seen at 5", x.seen(0, 5, 7), 1);
        due("torn at 0", x.tear(1, 0), 1);
        due("torn at 5", x.tear(1, 5), 2);
        due("nothing at 0", x.at(1, 0, 3), 0);
        due("nothing at 5", x.at(1, 5, 3), 0);
        E.outside("at", 0, 5, Edges::some, (y, n) -> y.at(0, n, 0), BAD);
        E.outside("law", 0, 5, Edges::some, (y, n) -> y.law(n), BAD);
        E.outside("tear", 0, 5, Edges::some, (y, n) -> y.tear(0, n), BAD);
        E.outside("seen", 0, 5, Edges::some, (y, n) -> y.seen(0, n, 0), BAD);
    }

    /** The last promised call of an object answers as the first one behind its making does. */
    private static void dueAsLast(String call, ToLongFunction<PosterWall> ask) {
        PosterWall old = Edges.some();
        for (int i = CALLS_OF_SOME; i < LIFE - 1; i++) old.type(2, i % 2 == 0 ? -1 : 256);
        due(call + " as call " + LIFE, ask.applyAsLong(old), ask.applyAsLong(Edges.some()));
    }

    private static void life() {
        E.says("An object is used for at most 512 calls after it has been made; what later calls answer is free.");
        dueAsLast("type", x -> x.type(0, 'a'));
        dueAsLast("tear", x -> x.tear(0, 0));
        dueAsLast("seen", x -> x.seen(0, 0, 0));
        dueAsLast("sheet", x -> x.sheet(3, 2, 60));
        dueAsLast("at", x -> x.at(19, 0, 3));
        dueAsLast("stick", x -> x.stick(1, 2));
        dueAsLast("shower", x -> x.shower(5, 7, 19, 1));
        dueAsLast("digest", x -> x.digest());
        PosterWall typed = new PosterWall();
        for (int i = 0; i < 511; i++) due("type and undo", i % 2 == 0 ? typed.type(1, '7') : typed.undo(1), (i + 1) % 2);
        due("call 512", typed.rain(0), 7);
        PosterWall torn = new PosterWall();
        for (int i = 0; i < 511; i++) due("tear and back", i % 2 == 0 ? torn.tear(19, 5) : torn.back(), (i + 1) % 2);
        due("call 512", torn.never(), 1);
        PosterWall rows = new PosterWall();
        for (int i = 0; i < 511; i++) due("sheet and lose", i % 2 == 0 ? rows.sheet(0, 2, 60) : rows.lose(0), 60);
        due("call 512", rows.get(0, 2, 59), 0);
        PosterWall digests = new PosterWall();
        long first = digests.digest();
        for (int i = 1; i < 512; i++) due("digest", digests.digest(), first);
    }
}
