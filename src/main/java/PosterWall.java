import java.util.Arrays;

/** A wall that remembers posters. DOC.md says what each call promises; its words are used here. */
public final class PosterWall {
    public static final int NONE = -1, BAD = -2, NOT = -3, FULL = -4;

    private static final int DAYS = 20;
    private static final int COLUMNS = 6;
    private static final int BILLS = 8;
    private static final int LETTERS = 8;
    private static final int TEARS = 8;
    private static final int TEARS_MORE = 2;
    private static final int SIGHTS = 8;
    private static final int FRESH_INK = 9;
    private static final int THICKEST = 9;
    private static final int WETTEST = 9;

    private static final int TEXTS = 3;
    private static final int POSTERS_TEXT = 0;
    private static final int RAINS_TEXT = 1;
    private static final int LAW_TEXT = 2;
    private static final int POSTERS_ROOM = 79;
    private static final int HEAD_BYTES = 5;
    private static final int WORD_LETTERS = 4;

    /** What is kept of a DAY at a COLUMN, in the order in which at() is asked for it. */
    private static final int READ = 0, OWNER = 1, ABOVE = 2, LAYERS = 3, THICKNESS = 4, INK = 5;
    private static final int FACTS = 6;

    private static final int SIXTEEN = 16;
    private static final int LAST_SHOWER = 9;
    private static final int LOT = 10;

    private static final int SHEETS = 4;
    private static final int FORMS = 3;
    private static final int BYTES = 0;
    private static final int SHORTS = 1;
    private static final int ITEMS = 60;

    private static final int NULL_FOUND = 1, INDEX_FOUND = 2, CAST_FOUND = 3, STORE_FOUND = 4, SIZE_FOUND = 5;
    private static final int LEAST_INT = 1 << 31;
    private static final long LEAST_LONG = 1L << 63;

    private final Text[] texts = new Text[TEXTS];
    private final Plan plan = new Plan();
    private final Stage told = new Stage(plan);
    private final Stage trial = new Stage(plan);
    private final Pile[] saved = new Pile[LAST_SHOWER + 1];
    private final Sights sights = new Sights();
    private final Row[] rows = new Row[SHEETS];
    private final int[] otherRains = new int[DAYS];
    private final int[] tally = new int[COLUMNS * (LETTERS + 1)];
    private final int[] found = new int[TEARS_MORE + 1];
    private final long[] chance = new long[2];
    private boolean toldIsPlayed = false;
    private int latestFinding = 0;

    public PosterWall() {
        texts[POSTERS_TEXT] = new Text(POSTERS_ROOM);
        texts[RAINS_TEXT] = new Text(DAYS);
        texts[LAW_TEXT] = new Text(COLUMNS);
        for (int i = 0; i < saved.length; i++) {
            saved[i] = new Pile();
        }
        for (int i = 0; i < rows.length; i++) {
            rows[i] = new Row();
        }
    }

    // ---- posters, rains, the law, tears

    public int type(int text, int b) {
        if (!isBelow(text, TEXTS) || !isBelow(b, 256)) {
            return BAD;
        }
        if (texts[text].isFull()) {
            return FULL;
        }
        texts[text].push(b);
        take(text);
        return texts[text].size;
    }

    public int wipe(int text) {
        if (!isBelow(text, TEXTS)) {
            return BAD;
        }
        int had = texts[text].size;
        texts[text].size = 0;
        take(text);
        return had;
    }

    public int undo(int text) {
        if (!isBelow(text, TEXTS)) {
            return BAD;
        }
        if (texts[text].size == 0) {
            return NOT;
        }
        texts[text].pop();
        take(text);
        return texts[text].size;
    }

    public int fault(int text) {
        return isBelow(text, TEXTS) ? texts[text].fault : BAD;
    }

    public int poster(int poster, int what) {
        if (!isBelow(poster, plan.billCount) || !isBelow(what, 9)) {
            return BAD;
        }
        Bill bill = plan.bills[poster];
        switch (what) {
            case 0: return bill.day;
            case 1: return bill.column;
            case 2: return bill.colour;
            case 3: return bill.thick;
            case 4: return bill.size;
            default: return bill.letter(what - 5);
        }
    }

    public int rain(int day) {
        return isBelow(day, DAYS) ? plan.rains[day] : BAD;
    }

    public int law(int column) {
        return isBelow(column, COLUMNS) ? plan.law[column] : BAD;
    }

    public int tear(int day, int column) {
        if (!isBelow(day, DAYS) || !isBelow(column, COLUMNS)) {
            return BAD;
        }
        if (plan.tearCount >= TEARS) {
            return FULL;
        }
        plan.addTear(day, column);
        toldIsPlayed = false;
        return plan.tearCount;
    }

    public int back() {
        if (plan.tearCount == 0) {
            return NOT;
        }
        plan.tearCount--;
        toldIsPlayed = false;
        return plan.tearCount;
    }

    public int read(int s) {
        if (!isBelow(s, SHEETS)) {
            return BAD;
        }
        Row row = rows[s];
        if (row.lost) {
            return finding(NULL_FOUND);
        }
        int taken = 0;
        for (int i = 0; i + 1 < row.size; i += 2) {
            if (tear(row.item(i), row.item(i + 1)) < 0) {
                break;
            }
            taken++;
        }
        return taken;
    }

    // ---- days

    public int at(int day, int column, int what) {
        if (!isBelow(day, DAYS) || !isBelow(column, COLUMNS) || !isBelow(what, FACTS)) {
            return BAD;
        }
        playTold();
        return told.fact(day, column, what);
    }

    public int obeyed(int day) {
        if (!isBelow(day, DAYS)) {
            return BAD;
        }
        playTold();
        return told.obeys(day) ? 1 : 0;
    }

    public int days(int what) {
        if (!isBelow(what, 2)) {
            return BAD;
        }
        playTold();
        if (what == 0) {
            return told.daysObeyed();
        }
        for (int day = 0; day < DAYS; day++) {
            if (told.obeys(day)) {
                return day;
            }
        }
        return NONE;
    }

    public int unread() {
        playTold();
        return told.unreadBills();
    }

    public int often() {
        playTold();
        int best = NONE;
        int most = NONE;
        for (int bill = 0; bill < plan.billCount; bill++) {
            int days = told.daysRead(bill);
            if (days > most) {
                most = days;
                best = bill;
            }
        }
        return best;
    }

    // ---- plans

    public int rip(int day, int i) {
        if (!isBelow(day, DAYS) || i < NONE || i >= TEARS_MORE) {
            return BAD;
        }
        findRip(day);
        return found[i + 1];
    }

    public int wet(int day) {
        if (!isBelow(day, DAYS)) {
            return BAD;
        }
        playAhead(day);
        int bits = 0;
        for (int rain = 0; rain <= WETTEST; rain++) {
            trial.pile.become(saved[0]);
            trial.play(day, rain);
            if (trial.obeys(day)) {
                bits |= 1 << rain;
            }
        }
        return bits;
    }

    public int paste(int poster, int what) {
        if (!isBelow(poster, plan.billCount) || !isBelow(what, 2)) {
            return BAD;
        }
        findPaste(plan.bills[poster]);
        return found[what];
    }

    public int stick(int poster, int what) {
        if (!isBelow(poster, plan.billCount) || !isBelow(what, 3)) {
            return BAD;
        }
        findStick(plan.bills[poster]);
        return found[what];
    }

    // ---- seen, showers, seasons

    public int seen(int day, int column, int letter) {
        if (!isBelow(day, DAYS) || !isBelow(column, COLUMNS) || !isBelow(letter, LETTERS + 1)) {
            return BAD;
        }
        if (sights.count >= SIGHTS) {
            return FULL;
        }
        sights.add(day, column, letter < LETTERS ? letter : NONE);
        return sights.count;
    }

    public int forget() {
        int had = sights.count;
        sights.count = 0;
        return had;
    }

    public int never() {
        int bits = 0;
        for (int i = 0; i < plan.tearCount; i++) {
            plan.spared = i;
            if (comesOutAsSeen()) {
                bits |= 1 << i;
            }
        }
        plan.spared = NONE;
        return bits;
    }

    public int was(int poster, int what) {
        if (!isBelow(poster, plan.billCount) || !isBelow(what, 2)) {
            return BAD;
        }
        Bill bill = plan.bills[poster];
        return what == 0 ? thicks(bill) : years(bill);
    }

    public int ask(int poster) {
        if (!isBelow(poster, plan.billCount)) {
            return BAD;
        }
        years(plan.bills[poster]);
        return columnToAsk();
    }

    public long shower(int c, int last, int day, int what) {
        if (!isBelow(c, SIXTEEN + 1) || !isBelow(last, LAST_SHOWER + 1) || !isBelow(day, DAYS) || !isBelow(what, 2)) {
            return LEAST_LONG - BAD;
        }
        findShower(c, last, day);
        return chance[what];
    }

    public int season(int seed, int n, int what) {
        if (!isBelow(n, DAYS + 1) || !isBelow(what, 2)) {
            return BAD;
        }
        int lot = seed;
        for (int day = 0; day < DAYS; day++) {
            lot = 1103515245 * lot + 12345;
            otherRains[day] = day < n ? (lot >>> 16) % LOT : 0;
        }
        trial.playDays(otherRains, DAYS);
        return what == 0 ? trial.daysObeyed() : Integer.bitCount(trial.unreadBills());
    }

    // ---- sheets

    public int sheet(int s, int form, int n) {
        if (!isBelow(s, SHEETS) || !isBelow(form, FORMS) || n > ITEMS) {
            return BAD;
        }
        if (n < 0) {
            return finding(SIZE_FOUND);
        }
        rows[s].begin(form, n);
        return n;
    }

    public int lose(int s) {
        if (!isBelow(s, SHEETS)) {
            return BAD;
        }
        if (rows[s].lost) {
            return finding(NULL_FOUND);
        }
        rows[s].lost = true;
        return rows[s].size;
    }

    public int lay(int s, int form, int i, int v) {
        if (!isBelow(s, SHEETS) || !isBelow(form, FORMS)) {
            return BAD;
        }
        int wrong = wrongWith(rows[s], form, i);
        if (wrong != 0) {
            return finding(wrong);
        }
        rows[s].put(i, v);
        return 1;
    }

    public int get(int s, int form, int i) {
        if (!isBelow(s, SHEETS) || !isBelow(form, FORMS)) {
            return LEAST_INT;
        }
        int wrong = wrongWith(rows[s], form, i);
        if (wrong != 0) {
            finding(wrong);
            return LEAST_INT;
        }
        return rows[s].item(i);
    }

    public int copy(int s, int i, int t, int j, int n) {
        if (!isBelow(s, SHEETS) || !isBelow(t, SHEETS)) {
            return BAD;
        }
        Row from = rows[s];
        Row to = rows[t];
        if (from.lost || to.lost) {
            return finding(NULL_FOUND);
        }
        if (from.form != to.form) {
            return finding(STORE_FOUND);
        }
        if (!from.has(i, n) || !to.has(j, n)) {
            return finding(INDEX_FOUND);
        }
        System.arraycopy(from.items, i, to.items, j, n);
        return 1;
    }

    public int write(int day, int s) {
        if (!isBelow(day, DAYS) || !isBelow(s, SHEETS)) {
            return BAD;
        }
        Row row = rows[s];
        if (row.lost) {
            return finding(NULL_FOUND);
        }
        playTold();
        int n = Math.min(COLUMNS, row.size);
        for (int column = 0; column < n; column++) {
            row.put(column, told.fact(day, column, READ));
        }
        return n;
    }

    public int count(int what) {
        switch (what) {
            case 0: return plan.billCount;
            case 1: return plan.rainCount;
            case 2: return plan.lawCount;
            case 3: return texts[POSTERS_TEXT].size;
            case 4: return texts[RAINS_TEXT].size;
            case 5: return texts[LAW_TEXT].size;
            case 6: return plan.tearCount;
            case 7: return sights.count;
            case 8: return latestFinding;
            default: return BAD;
        }
    }

    public long digest() {
        long h = 17;
        for (int what = 0; what < 8; what++) {
            h = 31 * h + count(what);
        }
        for (int text = 0; text < TEXTS; text++) {
            h = 31 * h + fault(text);
        }
        h = digestDay(h, 0);
        h = digestDay(h, 4);
        h = digestDay(h, 9);
        h = digestDay(h, 19);
        for (int column = 0; column < COLUMNS; column++) {
            h = 31 * h + law(column);
        }
        for (int bill = 0; bill < plan.billCount; bill++) {
            h = digestBill(h, bill);
        }
        h = 31 * h + days(0);
        h = 31 * h + days(1);
        h = 31 * h + unread();
        h = 31 * h + often();
        h = 31 * h + never();
        findShower(5, 7, 19);
        h = 31 * h + chance[0];
        h = 31 * h + chance[1];
        h = 31 * h + season(7, 15, 0);
        return 31 * h + season(7, 15, 1);
    }

    private long digestDay(long ahead, int day) {
        long h = 31 * ahead + rain(day);
        h = 31 * h + obeyed(day);
        findRip(day);
        h = 31 * h + found[0];
        h = 31 * h + found[1];
        h = 31 * h + wet(day);
        for (int column = 0; column < COLUMNS; column++) {
            for (int what = 0; what < FACTS; what++) {
                h = 31 * h + at(day, column, what);
            }
        }
        return h;
    }

    private long digestBill(long ahead, int bill) {
        long h = ahead;
        for (int what = 0; what < 9; what++) {
            h = 31 * h + poster(bill, what);
        }
        findPaste(plan.bills[bill]);
        h = 31 * h + found[0];
        h = 31 * h + found[1];
        findStick(plan.bills[bill]);
        h = 31 * h + found[0];
        h = 31 * h + found[1];
        h = 31 * h + found[2];
        h = 31 * h + thicks(plan.bills[bill]);
        h = 31 * h + years(plan.bills[bill]);
        return 31 * h + columnToAsk();
    }

    private static boolean isBelow(int number, int bound) {
        return number >= 0 && number < bound;
    }

    private int finding(int number) {
        latestFinding = number;
        return -10 - number;
    }

    private static int wrongWith(Row row, int form, int i) {
        if (row.lost) {
            return NULL_FOUND;
        }
        if (row.form != form) {
            return CAST_FOUND;
        }
        return row.has(i, 1) ? 0 : INDEX_FOUND;
    }

    private void take(int text) {
        Text from = texts[text];
        if (text == POSTERS_TEXT) {
            from.fault = plan.takeBills(from);
        } else if (text == RAINS_TEXT) {
            from.fault = plan.takeRains(from);
        } else {
            from.fault = plan.takeLaw(from);
        }
        toldIsPlayed = false;
    }

    private void playTold() {
        if (!toldIsPlayed) {
            told.playDays(plan.rains, DAYS);
            toldIsPlayed = true;
        }
    }

    /** All trials of one DAY begin alike, so the DAYS ahead of it are played once. */
    private void playAhead(int day) {
        trial.playDays(plan.rains, day);
        saved[0].become(trial.pile);
    }

    private void findRip(int day) {
        playAhead(day);
        if (obeysTorn(day, NONE, NONE)) {
            setFound(0, NONE, NONE);
            return;
        }
        for (int first = 0; first < COLUMNS; first++) {
            if (obeysTorn(day, first, NONE)) {
                setFound(1, first, NONE);
                return;
            }
        }
        for (int first = 0; first < COLUMNS; first++) {
            for (int second = first; second < COLUMNS; second++) {
                if (obeysTorn(day, first, second)) {
                    setFound(2, first, second);
                    return;
                }
            }
        }
        setFound(NONE, NONE, NONE);
    }

    private boolean obeysTorn(int day, int first, int second) {
        int had = plan.tearCount;
        if (first != NONE) {
            plan.addTear(day, first);
        }
        if (second != NONE) {
            plan.addTear(day, second);
        }
        trial.pile.become(saved[0]);
        trial.play(day, plan.rains[day]);
        plan.tearCount = had;
        return trial.obeys(day);
    }

    private void setFound(int first, int second, int third) {
        found[0] = first;
        found[1] = second;
        found[2] = third;
    }

    private void findPaste(Bill bill) {
        int own = bill.thick;
        setFound(NONE, NONE, NONE);
        for (int thick = 1; thick <= THICKEST; thick++) {
            bill.thick = thick;
            trial.playDays(plan.rains, DAYS);
            int days = trial.daysObeyed();
            if (days > found[1]) {
                setFound(thick, days, NONE);
            }
        }
        bill.thick = own;
    }

    private void findStick(Bill bill) {
        int ownDay = bill.day;
        int ownColumn = bill.column;
        int soonest = DAYS;
        setFound(NONE, NONE, NONE);
        for (int day = 0; day < DAYS; day++) {
            for (int column = 0; column < COLUMNS; column++) {
                bill.day = day;
                bill.column = column;
                int when = trial.firstObeyed(plan.rains, soonest);
                if (when != NONE) {
                    soonest = when;
                    setFound(day, column, when);
                }
            }
        }
        bill.day = ownDay;
        bill.column = ownColumn;
    }

    private boolean comesOutAsSeen() {
        trial.playDays(plan.rains, DAYS);
        return sights.fit(trial);
    }

    private int thicks(Bill bill) {
        int own = bill.thick;
        int bits = 0;
        for (int thick = 1; thick <= THICKEST; thick++) {
            bill.thick = thick;
            if (comesOutAsSeen()) {
                bits |= 1 << thick;
            }
        }
        bill.thick = own;
        return bits;
    }

    /** Leaves in the tally what is READ on the last DAY by each of them. */
    private int years(Bill bill) {
        int own = bill.day;
        int bits = 0;
        Arrays.fill(tally, 0);
        for (int day = 0; day < DAYS; day++) {
            bill.day = day;
            if (comesOutAsSeen()) {
                bits |= 1 << day;
                tallyLastDay();
            }
        }
        bill.day = own;
        return bits;
    }

    private void tallyLastDay() {
        for (int column = 0; column < COLUMNS; column++) {
            int letter = trial.fact(DAYS - 1, column, READ);
            int like = isBelow(letter, LETTERS) ? letter : LETTERS;
            tally[column * (LETTERS + 1) + like]++;
        }
    }

    private int columnToAsk() {
        int best = 0;
        int least = DAYS + 1;
        for (int column = 0; column < COLUMNS; column++) {
            int greatest = greatestLike(column);
            if (greatest < least) {
                least = greatest;
                best = column;
            }
        }
        return best;
    }

    private int greatestLike(int column) {
        int greatest = 0;
        for (int like = 0; like <= LETTERS; like++) {
            greatest = Math.max(greatest, tally[column * (LETTERS + 1) + like]);
        }
        return greatest;
    }

    private void findShower(int c, int last, int until) {
        trial.pile.clear();
        long above = plan.lawCount == 0 ? 0 : obeyedFrom(0, c, last, until);
        long below = 1L << 4 * (last + 1);
        long divisor = Math.max(1, greatestDivisor(above, below));
        chance[0] = above / divisor;
        chance[1] = below / divisor;
    }

    /** Out of 16 for each DAY from this one to the last that is left to chance: how many are OBEYED. */
    private long obeyedFrom(int day, int c, int last, int until) {
        if (day > until) {
            return 0;
        }
        if (day > last || day >= saved.length) {
            return obeyedLater(day, until) ? 1 : 0;
        }
        int rain = plan.rains[day];
        if (rain == 0) {
            return SIXTEEN * obeyedBy(0, day, c, last, until);
        }
        saved[day].become(trial.pile);
        long sum = 0;
        if (c > 0) {
            sum = c * obeyedBy(rain, day, c, last, until);
        }
        if (c < SIXTEEN) {
            trial.pile.become(saved[day]);
            sum += (SIXTEEN - c) * obeyedBy(0, day, c, last, until);
        }
        return sum;
    }

    private long obeyedBy(int rain, int day, int c, int last, int until) {
        trial.play(day, rain);
        if (trial.obeys(day)) {
            return 1L << 4 * (last - day);
        }
        return obeyedFrom(day + 1, c, last, until);
    }

    private boolean obeyedLater(int from, int until) {
        for (int day = from; day <= until && day < DAYS; day++) {
            trial.play(day, plan.rains[day]);
            if (trial.obeys(day)) {
                return true;
            }
        }
        return false;
    }

    private static long greatestDivisor(long a, long b) {
        long greater = a;
        long less = b;
        // Euclid's steps for numbers up to 16 to the tenth are far fewer.
        for (int i = 0; i < 200 && less != 0; i++) {
            long rest = greater % less;
            greater = less;
            less = rest;
        }
        return greater;
    }

    /** A text as it is typed, well or not. */
    private static final class Text {
        final int[] bytes;
        int size = 0;
        int fault = NONE;

        Text(int room) {
            bytes = new int[Math.max(0, room)];
        }

        boolean isFull() {
            return size >= bytes.length;
        }

        void push(int b) {
            if (!isFull()) {
                bytes[size] = b;
                size++;
            }
        }

        void pop() {
            if (size > 0) {
                size--;
            }
        }

        int byteAt(int i) {
            return isBelow(i, size) && i < bytes.length ? bytes[i] : NONE;
        }
    }

    /** A POSTER. */
    private static final class Bill {
        final int[] word = new int[WORD_LETTERS];
        int day = 0;
        int column = 0;
        int colour = 0;
        int thick = 1;
        int size = 0;

        int letter(int i) {
            return isBelow(i, size) && i < word.length ? word[i] : NONE;
        }

        /** The next byte of its text, the place-th of the poster: whether the text can go on with it. */
        boolean takes(int place, int b) {
            int figure = b - '0';
            switch (place) {
                case 0:
                    day = 10 * figure;
                    return isBelow(figure, 2);
                case 1:
                    day += figure;
                    return isBelow(figure, 10);
                case 2:
                    column = figure;
                    return isBelow(figure, COLUMNS);
                case 3:
                    colour = b == 'r' ? 0 : b == 'y' ? 1 : b == 'k' ? 2 : NONE;
                    return colour != NONE;
                case 4:
                    thick = figure;
                    return figure >= 1 && figure <= THICKEST;
                default:
                    return takesLetter(place - HEAD_BYTES, b - 'a');
            }
        }

        private boolean takesLetter(int i, int letter) {
            if (!isBelow(i, word.length) || !isBelow(letter, LETTERS)) {
                return false;
            }
            word[i] = letter;
            size = i + 1;
            return true;
        }
    }

    /** What is told: POSTERS, RAINS, THE LAW and TEARS. */
    private static final class Plan {
        final Bill[] bills = new Bill[BILLS];
        final int[] rains = new int[DAYS];
        final int[] law = new int[COLUMNS];
        final int[] tearDays = new int[TEARS + TEARS_MORE];
        final int[] tearColumns = new int[TEARS + TEARS_MORE];
        int billCount = 0;
        int rainCount = 0;
        int lawCount = 0;
        int tearCount = 0;
        int spared = NONE;

        Plan() {
            for (int i = 0; i < bills.length; i++) {
                bills[i] = new Bill();
            }
            Arrays.fill(law, NONE);
        }

        void addTear(int day, int column) {
            if (tearCount < tearDays.length && tearCount < tearColumns.length) {
                tearDays[tearCount] = day;
                tearColumns[tearCount] = column;
                tearCount++;
            }
        }

        int takeBills(Text text) {
            billCount = 0;
            int ended = 0;
            int place = 0;
            for (int i = 0; i < text.size; i++) {
                int b = text.byteAt(i);
                if (place > HEAD_BYTES && b == ';') {
                    ended++;
                    place = 0;
                    continue;
                }
                if (ended >= bills.length || !bills[ended].takes(place, b)) {
                    return i;
                }
                place++;
            }
            if (text.size == 0) {
                return NONE;
            }
            if (place <= HEAD_BYTES) {
                return text.size;
            }
            billCount = ended + 1;
            return NONE;
        }

        int takeRains(Text text) {
            rainCount = 0;
            Arrays.fill(rains, 0);
            for (int i = 0; i < text.size; i++) {
                if (!isBelow(text.byteAt(i) - '0', 10)) {
                    return i;
                }
            }
            for (int day = 0; day < text.size && day < rains.length; day++) {
                rains[day] = text.byteAt(day) - '0';
                rainCount++;
            }
            return NONE;
        }

        int takeLaw(Text text) {
            lawCount = 0;
            Arrays.fill(law, NONE);
            for (int i = 0; i < text.size; i++) {
                int b = text.byteAt(i);
                if (b != '.' && !isBelow(b - 'a', LETTERS)) {
                    return i;
                }
            }
            for (int column = 0; column < text.size && column < law.length; column++) {
                int b = text.byteAt(column);
                if (b != '.') {
                    law[column] = b - 'a';
                    lawCount++;
                }
            }
            return NONE;
        }
    }

    /** The LAYERS that lie on the wall: for each COLUMN, from below, of which POSTER and with what INK. */
    private static final class Pile {
        final int[] heights = new int[COLUMNS];
        final int[] owners = new int[COLUMNS * BILLS];
        final int[] inks = new int[COLUMNS * BILLS];

        void clear() {
            Arrays.fill(heights, 0);
        }

        void become(Pile other) {
            System.arraycopy(other.heights, 0, heights, 0, COLUMNS);
            System.arraycopy(other.owners, 0, owners, 0, COLUMNS * BILLS);
            System.arraycopy(other.inks, 0, inks, 0, COLUMNS * BILLS);
        }

        /** A letter on each COLUMN, as far as there are COLUMNS. */
        void put(int owner, Bill bill) {
            for (int i = 0; i < bill.size; i++) {
                int column = bill.column + i;
                if (column >= 0 && column < COLUMNS && heights[column] < BILLS) {
                    int place = column * BILLS + heights[column];
                    owners[place] = owner;
                    inks[place] = FRESH_INK;
                    heights[column]++;
                }
            }
        }

        void pull(int column) {
            if (column >= 0 && column < COLUMNS && heights[column] > 0) {
                heights[column]--;
            }
        }
    }

    /** The wall on which the DAYS of a plan are played, and what was looked at on them. */
    private static final class Stage {
        final Plan plan;
        final Pile pile = new Pile();
        final int[] facts = new int[DAYS * COLUMNS * FACTS];

        Stage(Plan plan) {
            this.plan = plan;
        }

        int fact(int day, int column, int what) {
            if (!isBelow(day, DAYS) || !isBelow(column, COLUMNS) || !isBelow(what, FACTS)) {
                return NONE;
            }
            return facts[(day * COLUMNS + column) * FACTS + what];
        }

        void playDays(int[] rains, int before) {
            pile.clear();
            for (int day = 0; day < before && day < rains.length && day < DAYS; day++) {
                play(day, rains[day]);
            }
        }

        /** Plays on only until THE LAW is OBEYED: when it first is, if ahead of a DAY. */
        int firstObeyed(int[] rains, int before) {
            pile.clear();
            if (plan.lawCount == 0) {
                return NONE;
            }
            for (int day = 0; day < before && day < rains.length && day < DAYS; day++) {
                play(day, rains[day]);
                if (obeys(day)) {
                    return day;
                }
            }
            return NONE;
        }

        /** Wants the DAYS ahead of this one to have been played on the pile. */
        void play(int day, int rain) {
            for (int i = 0; i < plan.tearCount && i < plan.tearDays.length; i++) {
                if (plan.tearDays[i] == day && i != plan.spared) {
                    pile.pull(plan.tearColumns[i]);
                }
            }
            for (int i = 0; i < plan.billCount && i < BILLS; i++) {
                if (plan.bills[i].day == day) {
                    pile.put(i, plan.bills[i]);
                }
            }
            for (int column = 0; column < COLUMNS; column++) {
                keepFacts(day, column, layerSeen(column, rain));
            }
            if (rain == 0) {
                bleach();
            }
        }

        /** How far down the RAIN lets one look, but never through the lowest LAYER; NONE if there is none. */
        private int layerSeen(int column, int rain) {
            int left = rain;
            for (int layer = pile.heights[column] - 1; layer > 0; layer--) {
                int owner = pile.owners[column * BILLS + layer];
                int thick = owner >= 0 && owner < BILLS ? plan.bills[owner].thick : 0;
                if (left < thick) {
                    return layer;
                }
                left -= thick;
            }
            return pile.heights[column] > 0 ? 0 : NONE;
        }

        private void keepFacts(int day, int column, int layer) {
            int place = (day * COLUMNS + column) * FACTS;
            if (place < 0 || place + FACTS > facts.length) {
                return;
            }
            int layers = pile.heights[column];
            int thickness = 0;
            for (int i = 0; i < layers; i++) {
                int owner = pile.owners[column * BILLS + i];
                thickness += owner >= 0 && owner < BILLS ? plan.bills[owner].thick : 0;
            }
            facts[place + LAYERS] = layers;
            facts[place + THICKNESS] = thickness;
            facts[place + READ] = NONE;
            facts[place + OWNER] = NONE;
            facts[place + ABOVE] = 0;
            facts[place + INK] = 0;
            if (layer >= 0 && layer < layers) {
                int owner = pile.owners[column * BILLS + layer];
                int ink = pile.inks[column * BILLS + layer];
                facts[place + OWNER] = owner;
                facts[place + ABOVE] = layers - 1 - layer;
                facts[place + INK] = ink;
                if (ink > 0 && owner >= 0 && owner < BILLS) {
                    Bill bill = plan.bills[owner];
                    int i = column - bill.column;
                    facts[place + READ] = i >= 0 && i < bill.word.length ? bill.word[i] : NONE;
                }
            }
        }

        private void bleach() {
            for (int column = 0; column < COLUMNS; column++) {
                int top = pile.heights[column] - 1;
                if (top >= 0) {
                    int place = column * BILLS + top;
                    int owner = pile.owners[place];
                    int loss = owner >= 0 && owner < BILLS ? 3 - plan.bills[owner].colour : 0;
                    pile.inks[place] = pile.inks[place] > loss ? pile.inks[place] - loss : 0;
                }
            }
        }

        boolean obeys(int day) {
            if (plan.lawCount == 0) {
                return false;
            }
            for (int column = 0; column < COLUMNS; column++) {
                int letter = plan.law[column];
                if (letter != NONE && letter != fact(day, column, READ)) {
                    return false;
                }
            }
            return true;
        }

        int daysObeyed() {
            int days = 0;
            for (int day = 0; day < DAYS; day++) {
                if (obeys(day)) {
                    days++;
                }
            }
            return days;
        }

        int daysRead(int bill) {
            int days = 0;
            for (int day = 0; day < DAYS; day++) {
                if (isReadOn(day, bill)) {
                    days++;
                }
            }
            return days;
        }

        private boolean isReadOn(int day, int bill) {
            for (int column = 0; column < COLUMNS; column++) {
                if (fact(day, column, OWNER) == bill && fact(day, column, READ) != NONE) {
                    return true;
                }
            }
            return false;
        }

        int unreadBills() {
            int bits = 0;
            for (int bill = 0; bill < plan.billCount; bill++) {
                if (daysRead(bill) == 0) {
                    bits |= 1 << bill;
                }
            }
            return bits;
        }
    }

    /** What was SEEN; NONE stands for nothing. */
    private static final class Sights {
        final int[] days = new int[SIGHTS];
        final int[] columns = new int[SIGHTS];
        final int[] letters = new int[SIGHTS];
        int count = 0;

        void add(int day, int column, int letter) {
            if (count < SIGHTS) {
                days[count] = day;
                columns[count] = column;
                letters[count] = letter;
                count++;
            }
        }

        boolean fit(Stage stage) {
            for (int i = 0; i < count && i < SIGHTS; i++) {
                if (stage.fact(days[i], columns[i], READ) != letters[i]) {
                    return false;
                }
            }
            return true;
        }
    }

    /** A SHEET. Its items stand in ints whatever its FORM, so that a new one needs no new room. */
    private static final class Row {
        final int[] items = new int[ITEMS];
        boolean lost = true;
        int form = 0;
        int size = 0;

        void begin(int newForm, int newSize) {
            Arrays.fill(items, 0);
            lost = false;
            form = newForm;
            size = Math.max(0, Math.min(ITEMS, newSize));
        }

        boolean has(int from, int n) {
            return from >= 0 && n >= 0 && from <= size && n <= size - from;
        }

        int item(int i) {
            return isBelow(i, size) && i < ITEMS ? items[i] : NONE;
        }

        void put(int i, int v) {
            if (isBelow(i, size) && i < ITEMS) {
                items[i] = form == BYTES ? (byte) v : form == SHORTS ? (short) v : v;
            }
        }
    }
}
