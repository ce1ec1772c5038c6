import java.io.IOException;
import java.nio.file.Files;
import java.nio.file.Path;
import java.util.function.Supplier;
import java.util.function.ToLongFunction;

/**
 * Tests of the document's sentences, each under its own words. The words told to says() have to be those with which
 * the document goes on, so no sentence is left without a test, and none is tested that the document does not have.
 */
final class Edges {
    private static final Path DOCUMENT = Path.of("../shared/DOC.md");
    private static final int FIRST_FINDING = -11, LAST_FINDING = -15;

    interface Asked {
        long with(PosterWall x, int number);
    }

    private final Check check;
    private final boolean documentIsHere = Files.exists(DOCUMENT);
    private String toCome;
    private int askedAhead = -1;

    /** The document from the one words to the other ones, or to its end if these are none. */
    Edges(String name, String from, String to) {
        check = new Check(name);
        toCome = documentIsHere ? part(from, to) : "";
        if (!documentIsHere) System.out.println(name + ": no " + DOCUMENT + ", so no look at its words");
    }

    /** Another part of it, behind all of the one ahead. */
    void then(String from, String to) {
        nothingToCome();
        toCome = documentIsHere ? part(from, to) : "";
    }

    private static String part(String from, String to) {
        try {
            String all = Files.readString(DOCUMENT);
            int begin = all.indexOf(from);
            int end = to.isEmpty() ? all.length() : all.indexOf(to, begin + 1);
            if (begin < 0 || end < 0) throw new IllegalStateException(DOCUMENT + " has no " + from + " to " + to);
            return plain(all.substring(begin, end));
        } catch (IOException e) {
            throw new IllegalStateException(e);
        }
    }

    /** Without what is no sentence: heads, marks, and a call's signature, which LanguageTest looks at. */
    private static String plain(String text) {
        return text.replace("\r", "")
            .replaceAll("## (Promise \\d+): .*\n\\s*`[^`]*`: ", "$1: ")
            .replaceAll("(?m)^##.*$", "")
            .replaceAll("(?m)^```.*$", "")
            .replaceAll("======== \\d+ ", "")
            .replaceAll("\\s+", " ").trim();
    }

    void says(String words) {
        lookBack();
        check.promise("\"" + words + "\"");
        askedAhead = check.asked();
        if (!documentIsHere) return;
        if (!toCome.startsWith(words)) check.fault("the document goes on with: " + head(toCome));
        int at = toCome.indexOf(words);
        if (at >= 0) toCome = toCome.substring(at + words.length()).trim();
    }

    private void lookBack() {
        if (askedAhead == check.asked()) check.fault("nothing was asked");
    }

    private static String head(String text) {
        return text.substring(0, Math.min(90, text.length()));
    }

    void due(String call, long got, long want) {
        check.due(call, got, want);
    }

    private void nothingToCome() {
        lookBack();
        if (!toCome.isEmpty()) check.fault("without a test: " + head(toCome));
        askedAhead = -1;
    }

    void end() {
        nothingToCome();
        check.end();
    }

    // ---- refusals

    /**
     * A refused call answers as due and changes nothing but, as a FINDING, count() 8: of two objects made alike, the one
     * that was asked is like the one that was not, whether there was a FINDING ahead or none.
     */
    void refused(String call, Supplier<PosterWall> make, ToLongFunction<PosterWall> ask, long want) {
        boolean finding = want <= FIRST_FINDING && want >= LAST_FINDING;
        refused(call, make, ask, want, finding ? (int) (-10 - want) : 0);
    }

    void refused(String call, Supplier<PosterWall> make, ToLongFunction<PosterWall> ask, long want, int finding) {
        for (int ahead = 0; ahead < 2; ahead++) {
            PosterWall asked = make.get();
            PosterWall left = make.get();
            if (ahead == 1) {
                due("a finding ahead", asked.sheet(0, 0, -1), -15);
                due("a finding ahead", left.sheet(0, 0, -1), -15);
            }
            due(call, ask.applyAsLong(asked), want);
            due(call + ", then count(8)", asked.count(8), finding != 0 ? finding : left.count(8));
            due(call + " has changed something", everything(asked).equals(everything(left)) ? 0 : 1, 0);
        }
    }

    /** A number one too small, one too great, the least and the greatest int are each refused. */
    void outside(String call, int least, int greatest, Supplier<PosterWall> make, Asked ask, long want) {
        int[] numbers = {least - 1, greatest + 1, Integer.MIN_VALUE, Integer.MAX_VALUE};
        for (int n : numbers) refused(call + " of " + n, make, x -> ask.with(x, n), want);
    }

    /** All that an object tells of itself but its latest finding, until nothing is left of it; in some 350 calls. */
    private static String everything(PosterWall x) {
        StringBuilder all = new StringBuilder();
        add(all, x.digest());
        for (int day = 0; day < 20; day++) add(all, x.rain(day));
        for (int s = 0; s < 4; s++) sheet(all, x, s);
        for (int left = x.back(); left >= 0; left = x.back()) add(all, left, x.digest());
        add(all, x.forget(), x.digest());
        for (int text = 0; text < 3; text++) text(all, x, text);
        return all.toString();
    }

    private static void add(StringBuilder all, long... answers) {
        for (long answer : answers) all.append(answer).append(' ');
    }

    private static void sheet(StringBuilder all, PosterWall x, int s) {
        for (int form = 0; form < 3; form++) {
            for (int i = 0; i < 7; i++) add(all, x.get(s, form, i));
        }
        add(all, x.lose(s));
    }

    /** What stands behind a fault is told when the fault is undone. */
    private static void text(StringBuilder all, PosterWall x, int text) {
        int fault = x.fault(text);
        for (int left = x.undo(text); left >= 0; left = x.undo(text)) {
            int ahead = fault;
            fault = x.fault(text);
            add(all, fault);
            if (ahead != PosterWall.NONE && fault == PosterWall.NONE) add(all, x.digest());
        }
    }

    // ---- objects to ask

    static Supplier<PosterWall> made(String posters, String rains, String law) {
        return () -> Check.wall(posters, rains, law);
    }

    /** Something of everything: two POSTERS, two TEARS, one SEEN, SHEETS 0 to 2 of FORMS 0 to 2; SHEET 3 is LOST. */
    static PosterWall some() {
        PosterWall x = Check.wall("000r2ab;011k3c", "0290", "a.c");
        x.tear(4, 1);
        x.tear(12, 0);
        x.seen(0, 0, 0);
        for (int s = 0; s < 3; s++) {
            x.sheet(s, s, 3 + s);
            x.lay(s, s, 0, 7 + s);
            x.lay(s, s, 2 + s, -1 - s);
        }
        return x;
    }

    /** All that can be full is full: 79, 20 and 6 bytes, eight TEARS, eight SEEN. */
    static PosterWall full() {
        PosterWall x = Check.wall("000r1abcd;".repeat(7) + "195k9hgfe", "01234567899876543210", "abcdef");
        for (int i = 0; i < 8; i++) {
            x.tear(2 * i, i % 6);
            x.seen(2 * i, i % 6, i);
        }
        return x;
    }
}
