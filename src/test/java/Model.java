import java.math.BigInteger;
import java.util.ArrayList;
import java.util.Arrays;
import java.util.List;
import java.util.regex.Matcher;
import java.util.regex.Pattern;

/**
 * The document a second time, as slow and as literal as can be, to compare PosterWall with.
 * Every question is answered by playing all days anew from the texts; nothing is kept between calls
 * but what was told.
 */
final class Model {
    static final int NONE = -1, BAD = -2, NOT = -3, FULL = -4;

    private static final String POSTER = "[01][0-9][0-5][ryk][1-9][a-h]{1,4}";
    private static final String EIGHT = POSTER + "(;" + POSTER + "){0,7}";
    private static final Pattern[] WELL = {
        Pattern.compile("(" + EIGHT + ")?"), Pattern.compile("[0-9]*"), Pattern.compile("[a-h.]*")};
    // The ; behind an eighth poster is no fault yet: the first byte of the ninth is.
    private static final Pattern[] BEGINS = {Pattern.compile("(" + EIGHT + ";?)?"), WELL[1], WELL[2]};
    private static final int[] ROOM = {79, 20, 6};

    private record Poster(int day, int column, int colour, int thick, String word) {
        Poster withThick(int t) { return new Poster(day, column, colour, t, word); }
        Poster withPlace(int d, int c) { return new Poster(d, c, colour, thick, word); }
    }

    private record Tear(int day, int column) { }

    private record Seen(int day, int column, int letter) { }

    private static final class Layer {
        final int poster;
        final int letter;
        int ink = 9;
        Layer(int poster, int letter) { this.poster = poster; this.letter = letter; }
    }

    /** What was looked at: by day and column the six answers of at(). */
    private static final class Story {
        final int[][][] at = new int[20][6][];
    }

    private final StringBuilder[] texts = {new StringBuilder(), new StringBuilder(), new StringBuilder()};
    private final List<Tear> tears = new ArrayList<>();
    private final List<Seen> seens = new ArrayList<>();
    private final Object[] sheets = new Object[4];
    private int latest = 0;

    // ---- texts

    private String well(int text) {
        String s = texts[text].toString();
        return WELL[text].matcher(s).matches() ? s : "";
    }

    private List<Poster> posters() {
        List<Poster> list = new ArrayList<>();
        if (!well(0).isEmpty()) {
            for (String s : well(0).split(";")) {
                list.add(new Poster(Integer.parseInt(s.substring(0, 2)), s.charAt(2) - '0',
                    "ryk".indexOf(s.charAt(3)), s.charAt(4) - '0', s.substring(5)));
            }
        }
        return list;
    }

    private int[] rains() {
        int[] r = new int[20];
        String s = well(1);
        for (int i = 0; i < s.length(); i++) r[i] = s.charAt(i) - '0';
        return r;
    }

    private int[] lawLetters() {
        int[] l = new int[6];
        Arrays.fill(l, NONE);
        String s = well(2);
        for (int i = 0; i < s.length(); i++) if (s.charAt(i) != '.') l[i] = s.charAt(i) - 'a';
        return l;
    }

    public int type(int text, int b) {
        if (text < 0 || text > 2 || b < 0 || b > 255) return BAD;
        if (texts[text].length() == ROOM[text]) return FULL;
        texts[text].append((char) b);
        return texts[text].length();
    }

    public int wipe(int text) {
        if (text < 0 || text > 2) return BAD;
        int n = texts[text].length();
        texts[text].setLength(0);
        return n;
    }

    public int undo(int text) {
        if (text < 0 || text > 2) return BAD;
        int n = texts[text].length();
        if (n == 0) return NOT;
        texts[text].setLength(n - 1);
        return n - 1;
    }

    public int fault(int text) {
        if (text < 0 || text > 2) return BAD;
        String s = texts[text].toString();
        if (WELL[text].matcher(s).matches()) return NONE;
        for (int i = 1; i <= s.length(); i++) {
            Matcher m = BEGINS[text].matcher(s.substring(0, i));
            if (!m.matches() && !m.hitEnd()) return i - 1;
        }
        return s.length();
    }

    public int poster(int poster, int what) {
        if (poster < 0 || poster >= posters().size() || what < 0 || what > 8) return BAD;
        Poster p = posters().get(poster);
        if (what == 0) return p.day;
        if (what == 1) return p.column;
        if (what == 2) return p.colour;
        if (what == 3) return p.thick;
        if (what == 4) return p.word.length();
        return what - 5 < p.word.length() ? p.word.charAt(what - 5) - 'a' : NONE;
    }

    public int rain(int day) {
        return day < 0 || day > 19 ? BAD : rains()[day];
    }

    public int law(int column) {
        return column < 0 || column > 5 ? BAD : lawLetters()[column];
    }

    public int tear(int day, int column) {
        if (day < 0 || day > 19 || column < 0 || column > 5) return BAD;
        if (tears.size() == 8) return FULL;
        tears.add(new Tear(day, column));
        return tears.size();
    }

    public int back() {
        if (tears.isEmpty()) return NOT;
        tears.remove(tears.size() - 1);
        return tears.size();
    }

    public int read(int s) {
        if (s < 0 || s > 3) return BAD;
        if (sheets[s] == null) return found(1);
        int n = 0;
        while (2 * n + 2 <= length(sheets[s]) && tear(item(sheets[s], 2 * n), item(sheets[s], 2 * n + 1)) > 0) n++;
        return n;
    }

    // ---- days

    /** Column by column, since no column knows of another. */
    private static Story play(List<Poster> posters, int[] rains, List<Tear> tears) {
        Story story = new Story();
        for (int column = 0; column < 6; column++) {
            List<Layer> layers = new ArrayList<>();
            for (int day = 0; day < 20; day++) {
                for (Tear t : tears) {
                    if (t.day == day && t.column == column && !layers.isEmpty()) layers.remove(0);
                }
                for (int i = 0; i < posters.size(); i++) {
                    Poster p = posters.get(i);
                    int letter = column - p.column;
                    if (p.day == day && letter >= 0 && letter < p.word.length()) {
                        layers.add(0, new Layer(i, p.word.charAt(letter) - 'a'));
                    }
                }
                story.at[day][column] = look(posters, layers, rains[day]);
                if (rains[day] == 0 && !layers.isEmpty()) {
                    Layer top = layers.get(0);
                    int colour = posters.get(top.poster).colour;
                    for (int loss = colour == 0 ? 3 : colour == 1 ? 2 : 1; loss > 0 && top.ink > 0; loss--) top.ink--;
                }
            }
        }
        return story;
    }

    /** Layer 0 is the top one here. */
    private static int[] look(List<Poster> posters, List<Layer> layers, int rain) {
        if (layers.isEmpty()) return new int[] {NONE, NONE, 0, 0, 0, 0};
        int sum = 0;
        for (Layer l : layers) sum += posters.get(l.poster).thick;
        int depth = 0;
        int through = posters.get(layers.get(0).poster).thick;
        while (depth + 1 < layers.size() && through <= rain) {
            depth++;
            through += posters.get(layers.get(depth).poster).thick;
        }
        Layer seen = layers.get(depth);
        return new int[] {seen.ink > 0 ? seen.letter : NONE, seen.poster, depth, layers.size(), sum, seen.ink};
    }

    private Story told() {
        return play(posters(), rains(), tears);
    }

    private boolean obeys(Story story, int day) {
        boolean letters = false;
        for (int c = 0; c < 6; c++) {
            if (lawLetters()[c] == NONE) continue;
            letters = true;
            if (story.at[day][c][0] != lawLetters()[c]) return false;
        }
        return letters;
    }

    private int howMany(Story story) {
        int n = 0;
        for (int d = 0; d < 20; d++) if (obeys(story, d)) n++;
        return n;
    }

    private int first(Story story) {
        for (int d = 0; d < 20; d++) if (obeys(story, d)) return d;
        return NONE;
    }

    private static int readOn(Story story, int poster) {
        int n = 0;
        for (int d = 0; d < 20; d++) {
            boolean any = false;
            for (int c = 0; c < 6; c++) any |= story.at[d][c][1] == poster && story.at[d][c][0] != NONE;
            if (any) n++;
        }
        return n;
    }

    public int at(int day, int column, int what) {
        if (day < 0 || day > 19 || column < 0 || column > 5 || what < 0 || what > 5) return BAD;
        return told().at[day][column][what];
    }

    public int obeyed(int day) {
        return day < 0 || day > 19 ? BAD : obeys(told(), day) ? 1 : 0;
    }

    public int days(int what) {
        return what == 0 ? howMany(told()) : what == 1 ? first(told()) : BAD;
    }

    private int unreadBits(Story story) {
        int bits = 0;
        for (int p = 0; p < posters().size(); p++) if (readOn(story, p) == 0) bits += 1 << p;
        return bits;
    }

    public int unread() {
        return unreadBits(told());
    }

    public int often() {
        int best = NONE;
        for (int p = 0; p < posters().size(); p++) {
            if (best == NONE || readOn(told(), p) > readOn(told(), best)) best = p;
        }
        return best;
    }

    // ---- plans

    private int[] ripRow(int day) {
        List<int[]> rows = new ArrayList<>();
        rows.add(new int[] {});
        for (int a = 0; a < 6; a++) rows.add(new int[] {a});
        for (int a = 0; a < 6; a++) for (int b = a; b < 6; b++) rows.add(new int[] {a, b});
        for (int[] row : rows) {
            List<Tear> more = new ArrayList<>(tears);
            for (int c : row) more.add(new Tear(day, c));
            if (obeys(play(posters(), rains(), more), day)) return row;
        }
        return null;
    }

    public int rip(int day, int i) {
        if (day < 0 || day > 19 || i < -1 || i > 1) return BAD;
        int[] row = ripRow(day);
        if (row == null) return NONE;
        return i == NONE ? row.length : i < row.length ? row[i] : NONE;
    }

    public int wet(int day) {
        if (day < 0 || day > 19) return BAD;
        int bits = 0;
        for (int r = 0; r < 10; r++) {
            int[] rains = rains();
            rains[day] = r;
            if (obeys(play(posters(), rains, tears), day)) bits += 1 << r;
        }
        return bits;
    }

    private Story with(int poster, Poster other) {
        List<Poster> list = posters();
        list.set(poster, other);
        return play(list, rains(), tears);
    }

    public int paste(int poster, int what) {
        if (poster < 0 || poster >= posters().size() || what < 0 || what > 1) return BAD;
        int best = 0;
        int most = -1;
        for (int t = 9; t >= 1; t--) {
            int n = howMany(with(poster, posters().get(poster).withThick(t)));
            if (n >= most) {
                most = n;
                best = t;
            }
        }
        return what == 0 ? best : most;
    }

    public int stick(int poster, int what) {
        if (poster < 0 || poster >= posters().size() || what < 0 || what > 2) return BAD;
        int[] best = {NONE, NONE, NONE};
        for (int d = 19; d >= 0; d--) {
            for (int c = 5; c >= 0; c--) {
                int when = first(with(poster, posters().get(poster).withPlace(d, c)));
                if (when != NONE && (best[2] == NONE || when <= best[2])) best = new int[] {d, c, when};
            }
        }
        return best[what];
    }

    // ---- seen, showers, seasons

    public int seen(int day, int column, int letter) {
        if (day < 0 || day > 19 || column < 0 || column > 5 || letter < 0 || letter > 8) return BAD;
        if (seens.size() == 8) return FULL;
        seens.add(new Seen(day, column, letter));
        return seens.size();
    }

    public int forget() {
        int n = seens.size();
        seens.clear();
        return n;
    }

    private boolean so(Story story) {
        for (Seen s : seens) {
            int read = story.at[s.day][s.column][0];
            if ((read == NONE ? 8 : read) != s.letter) return false;
        }
        return true;
    }

    public int never() {
        int bits = 0;
        for (int i = 0; i < tears.size(); i++) {
            List<Tear> others = new ArrayList<>(tears);
            others.remove(i);
            if (so(play(posters(), rains(), others))) bits += 1 << i;
        }
        return bits;
    }

    public int was(int poster, int what) {
        if (poster < 0 || poster >= posters().size() || what < 0 || what > 1) return BAD;
        Poster p = posters().get(poster);
        int bits = 0;
        for (int x = 0; x < 20; x++) {
            if (what == 0 && (x < 1 || x > 9)) continue;
            if (so(with(poster, what == 0 ? p.withThick(x) : p.withPlace(x, p.column)))) bits += 1 << x;
        }
        return bits;
    }

    public int ask(int poster) {
        if (poster < 0 || poster >= posters().size()) return BAD;
        int years = was(poster, 1);
        Poster p = posters().get(poster);
        int best = NONE;
        int least = 99;
        for (int c = 0; c < 6; c++) {
            int[] like = new int[9];
            for (int d = 0; d < 20; d++) {
                if ((years >> d & 1) == 0) continue;
                int read = with(poster, p.withPlace(d, p.column)).at[19][c][0];
                like[read == NONE ? 8 : read]++;
            }
            int greatest = Arrays.stream(like).max().getAsInt();
            if (greatest < least) {
                least = greatest;
                best = c;
            }
        }
        return best;
    }

    public long shower(int c, int last, int day, int what) {
        if (c < 0 || c > 16 || last < 0 || last > 9 || day < 0 || day > 19 || what < 0 || what > 1) {
            return Long.MIN_VALUE + 2;
        }
        BigInteger above = BigInteger.ZERO;
        BigInteger below = BigInteger.valueOf(16).pow(last + 1);
        List<Poster> posters = posters();
        for (int wetDays = 0; wetDays < 1 << last + 1; wetDays++) {
            int[] rains = rains();
            BigInteger weight = BigInteger.ONE;
            for (int d = 0; d <= last; d++) {
                boolean rains16 = (wetDays >> d & 1) == 1;
                if (!rains16) rains[d] = 0;
                weight = weight.multiply(BigInteger.valueOf(rains16 ? c : 16 - c));
            }
            int when = first(play(posters, rains, tears));
            if (when != NONE && when <= day) above = above.add(weight);
        }
        BigInteger g = above.gcd(below);
        return (what == 0 ? above : below).divide(g).longValueExact();
    }

    public int season(int seed, int n, int what) {
        if (n < 0 || n > 20 || what < 0 || what > 1) return BAD;
        int[] rains = new int[20];
        int s = seed;
        for (int d = 0; d < n; d++) {
            s = 1103515245 * s + 12345;
            rains[d] = (int) ((s & 0xffffffffL) / 65536 % 10);
        }
        Story story = play(posters(), rains, tears);
        return what == 0 ? howMany(story) : Integer.bitCount(unreadBits(story));
    }

    // ---- sheets, as rows of Java's own kinds

    private int found(int number) {
        latest = number;
        return -10 - number;
    }

    private static int length(Object sheet) {
        return java.lang.reflect.Array.getLength(sheet);
    }

    private static int item(Object sheet, int i) {
        return java.lang.reflect.Array.getInt(sheet, i);
    }

    private static void put(Object sheet, int i, int v) {
        if (sheet instanceof byte[] b) b[i] = (byte) v;
        else if (sheet instanceof short[] h) h[i] = (short) v;
        else ((int[]) sheet)[i] = v;
    }

    private static int form(Object sheet) {
        return sheet instanceof byte[] ? 0 : sheet instanceof short[] ? 1 : 2;
    }

    public int sheet(int s, int form, int n) {
        if (s < 0 || s > 3 || form < 0 || form > 2 || n > 60) return BAD;
        if (n < 0) return found(5);
        sheets[s] = form == 0 ? new byte[n] : form == 1 ? new short[n] : new int[n];
        return n;
    }

    public int lose(int s) {
        if (s < 0 || s > 3) return BAD;
        if (sheets[s] == null) return found(1);
        int n = length(sheets[s]);
        sheets[s] = null;
        return n;
    }

    private int refusal(int s, int form, int i) {
        if (s < 0 || s > 3 || form < 0 || form > 2) return BAD;
        if (sheets[s] == null) return found(1);
        if (form(sheets[s]) != form) return found(3);
        if (i < 0 || i >= length(sheets[s])) return found(2);
        return 0;
    }

    public int lay(int s, int form, int i, int v) {
        int no = refusal(s, form, i);
        if (no != 0) return no;
        put(sheets[s], i, v);
        return 1;
    }

    public int get(int s, int form, int i) {
        return refusal(s, form, i) != 0 ? Integer.MIN_VALUE : item(sheets[s], i);
    }

    public int copy(int s, int i, int t, int j, int n) {
        if (s < 0 || s > 3 || t < 0 || t > 3) return BAD;
        if (sheets[s] == null || sheets[t] == null) return found(1);
        try {
            System.arraycopy(sheets[s], i, sheets[t], j, n);
        } catch (ArrayStoreException e) {
            return found(4);
        } catch (IndexOutOfBoundsException e) {
            return found(2);
        }
        return 1;
    }

    public int write(int day, int s) {
        if (day < 0 || day > 19 || s < 0 || s > 3) return BAD;
        if (sheets[s] == null) return found(1);
        int n = 0;
        while (n < 6 && n < length(sheets[s])) {
            put(sheets[s], n, at(day, n, 0));
            n++;
        }
        return n;
    }

    public int count(int what) {
        switch (what) {
            case 0: return posters().size();
            case 1: return well(1).length();
            case 2: return well(2).replace(".", "").length();
            case 3: case 4: case 5: return texts[what - 3].length();
            case 6: return tears.size();
            case 7: return seens.size();
            case 8: return latest;
            default: return BAD;
        }
    }

    public long digest() {
        List<Long> all = new ArrayList<>();
        for (int i = 0; i < 8; i++) all.add((long) count(i));
        for (int t = 0; t < 3; t++) all.add((long) fault(t));
        for (int d : new int[] {0, 4, 9, 19}) {
            all.add((long) rain(d));
            all.add((long) obeyed(d));
            all.add((long) rip(d, NONE));
            all.add((long) rip(d, 0));
            all.add((long) wet(d));
            for (int c = 0; c < 6; c++) for (int w = 0; w < 6; w++) all.add((long) at(d, c, w));
        }
        for (int c = 0; c < 6; c++) all.add((long) law(c));
        for (int p = 0; p < posters().size(); p++) {
            for (int w = 0; w < 9; w++) all.add((long) poster(p, w));
            for (int w = 0; w < 2; w++) all.add((long) paste(p, w));
            for (int w = 0; w < 3; w++) all.add((long) stick(p, w));
            for (int w = 0; w < 2; w++) all.add((long) was(p, w));
            all.add((long) ask(p));
        }
        for (int w = 0; w < 2; w++) all.add((long) days(w));
        all.add((long) unread());
        all.add((long) often());
        all.add((long) never());
        for (int w = 0; w < 2; w++) all.add(shower(5, 7, 19, w));
        for (int w = 0; w < 2; w++) all.add((long) season(7, 15, w));
        long h = 17;
        for (long x : all) h = 31 * h + x;
        return h;
    }
}
