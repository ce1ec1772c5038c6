import java.util.function.ToLongFunction;

/** The edges that the document names ahead of its face: the wall's columns, and how long an object is used. */
public final class WallEdgesTest {
    private static final Edges E = new Edges("WallEdgesTest", "======== 1", "## The public face");
    private static final int BAD = PosterWall.BAD;
    private static final int CALLS_OF_SOME = 33, LIFE = 512;

    private static void due(String call, long got, long want) {
        E.due(call, got, want);
    }

    public static void main(String[] args) {
        columns();
        life();
        E.end();
    }

    private static void columns() {
        E.says("THE WALL has COLUMNS 0 to 5.");
        PosterWall x = Check.wall("000k1a;005k1h", "", "a....h");
        due("read at 0", x.at(0, 0, 0), 0);
        due("read at 5", x.at(0, 5, 0), 7);
        due("the law at 0", x.law(0), 0);
        due("the law at 5", x.law(5), 7);
        due("seen at 5", x.seen(0, 5, 7), 1);
        due("torn at 0", x.tear(1, 0), 1);
        due("torn at 5", x.tear(1, 5), 2);
        due("nothing at 0", x.at(1, 0, 3), 0);
        due("nothing at 5", x.at(1, 5, 3), 0);
        E.outside("at", 0, 5, Edges::some, (y, n) -> y.at(0, n, 0), BAD);
        E.outside("law", 0, 5, Edges::some, (y, n) -> y.law(n), BAD);
        E.outside("tear", 0, 5, Edges::some, (y, n) -> y.tear(0, n), BAD);
        E.outside("seen", 0, 5, Edges::some, (y, n) -> y.seen(0, n, 0), BAD);
    }

    /** The last promised call of an object answers as the first one behind its making does. */
    private static void dueAsLast(String call, ToLongFunction<PosterWall> ask) {
        PosterWall old = Edges.some();
        for (int i = CALLS_OF_SOME; i < LIFE - 1; i++) old.type(2, i % 2 == 0 ? -1 : 256);
        due(call + " as call " + LIFE, ask.applyAsLong(old), ask.applyAsLong(Edges.some()));
    }

    private static void life() {
        E.says("An object is used for at most 512 calls after it has been made; what later calls answer is free.");
        dueAsLast("type", x -> x.type(0, 'a'));
        dueAsLast("tear", x -> x.tear(0, 0));
        dueAsLast("seen", x -> x.seen(0, 0, 0));
        dueAsLast("sheet", x -> x.sheet(3, 2, 60));
        dueAsLast("at", x -> x.at(19, 0, 3));
        dueAsLast("stick", x -> x.stick(1, 2));
        dueAsLast("shower", x -> x.shower(5, 7, 19, 1));
        dueAsLast("digest", x -> x.digest());
        PosterWall typed = new PosterWall();
        for (int i = 0; i < 511; i++) due("type and undo", i % 2 == 0 ? typed.type(1, '7') : typed.undo(1), (i + 1) % 2);
        due("call 512", typed.rain(0), 7);
        PosterWall torn = new PosterWall();
        for (int i = 0; i < 511; i++) due("tear and back", i % 2 == 0 ? torn.tear(19, 5) : torn.back(), (i + 1) % 2);
        due("call 512", torn.never(), 1);
        PosterWall rows = new PosterWall();
        for (int i = 0; i < 511; i++) due("sheet and lose", i % 2 == 0 ? rows.sheet(0, 2, 60) : rows.lose(0), 60);
        due("call 512", rows.get(0, 2, 59), 0);
        PosterWall digests = new PosterWall();
        long first = digests.digest();
        for (int i = 1; i < 512; i++) due("digest", digests.digest(), first);
    }
}
