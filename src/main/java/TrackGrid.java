import java.util.Arrays;
import java.util.NoSuchElementException;

/** A layout of items in a grid of columns (axis 0) and rows (axis 1). */
public final class TrackGrid {
    private static final int MOST_TRACKS = 12;
    private static final int MOST_ITEMS = 10;
    private static final int MOST_SPAN = 4;
    private static final int MOST_CHARACTERS = 40;
    private static final int MOST_GROWTHS = 16;

    private static final int COLUMNS = 0;
    private static final int ROWS = 1;

    private static final int LENGTH = 0;
    private static final int MIN = 1;
    private static final int MAX = 2;
    private static final int AUTO = 3;
    private static final int SHARE = 4;
    private static final int FIT = 5;

    private static final int AT_START = 0;
    private static final int AT_MIDDLE = 1;
    private static final int AT_END = 2;
    private static final int STRETCHED = 3;

    private final TemplateReader reader;
    private final Axis[] axes;
    private final Sizer[] sizers;
    private final Placer placer;
    private int itemCount;
    private int refusedPlace;
    private boolean alongColumns;
    private boolean packed;

    public TrackGrid() {
        reader = new TemplateReader();
        axes = new Axis[] {new Axis(), new Axis()};
        sizers = new Sizer[] {new Sizer(axes[COLUMNS]), new Sizer(axes[ROWS])};
        placer = new Placer(axes[ROWS], axes[COLUMNS]);
        refusedPlace = -1;
    }

    public boolean write(char c) {
        return reader.append(c);
    }

    public int template(int axis) throws IllegalArgumentException {
        if (!isAxis(axis)) {
            throw new IllegalArgumentException("no such axis");
        }
        boolean taken = reader.readText();
        reader.forgetText();
        if (!taken) {
            refusedPlace = reader.next;
            throw new IllegalArgumentException("no template");
        }
        axes[axis].tracksTold.copyFrom(reader.draft);
        return reader.draft.count;
    }

    public int place() {
        return refusedPlace;
    }

    public int item(int column, int columns, int row, int rows)
            throws IllegalArgumentException, IllegalStateException {
        if (!isStand(column, columns) || !isStand(row, rows)) {
            throw new IllegalArgumentException("no such start or span");
        }
        if (itemCount >= MOST_ITEMS) {
            throw new IllegalStateException("no more items");
        }
        axes[COLUMNS].stand(itemCount, column, columns);
        axes[ROWS].stand(itemCount, row, rows);
        itemCount++;
        return itemCount - 1;
    }

    public boolean need(int item, int axis, float least, float most) {
        if (!isItem(item) || !isAxis(axis)) {
            return false;
        }
        if (!isMeasure(least) || !isMeasure(most) || least > most) {
            return false;
        }
        axes[axis].least[item] = withoutSign(least);
        axes[axis].most[item] = withoutSign(most);
        return true;
    }

    public void flow(boolean columns, boolean packed) {
        this.alongColumns = columns;
        this.packed = packed;
    }

    public boolean room(int axis, float space, float gap) {
        if (!isAxis(axis) || !isMeasure(space) || !isMeasure(gap)) {
            return false;
        }
        axes[axis].space = withoutSign(space);
        axes[axis].gap = withoutSign(gap);
        return true;
    }

    public boolean put(int axis, int how) {
        if (!isAxis(axis) || how < AT_START || how > STRETCHED) {
            return false;
        }
        axes[axis].how = how;
        return true;
    }

    public int layout() {
        int main = alongColumns ? COLUMNS : ROWS;
        int other = alongColumns ? ROWS : COLUMNS;
        int placed = placer.placeAll(axes[main], axes[other], itemCount, packed);
        sizers[COLUMNS].workOut(itemCount);
        sizers[ROWS].workOut(itemCount);
        return placed;
    }

    public int tracks(int axis) {
        return isAxis(axis) ? axes[axis].count : -1;
    }

    public float size(int axis, int track) throws NoSuchElementException {
        if (!isTrack(axis, track)) {
            throw new NoSuchElementException("no such track");
        }
        return axes[axis].bases[track];
    }

    public float at(int axis, int track) throws NoSuchElementException {
        if (!isTrack(axis, track)) {
            throw new NoSuchElementException("no such track");
        }
        return axes[axis].positions[track];
    }

    public int line(int item, int axis) {
        return isItem(item) && isAxis(axis) ? axes[axis].lines[item] : 0;
    }

    public float extent(int item, int axis) throws NoSuchElementException {
        if (line(item, axis) == 0) {
            throw new NoSuchElementException("no such item placed");
        }
        return axes[axis].extents[item];
    }

    public int hit(float x, float y) {
        for (int item = 0; item < itemCount; item++) {
            if (axes[COLUMNS].covers(item, x) && axes[ROWS].covers(item, y)) {
                return item;
            }
        }
        return -1;
    }

    public float free(int axis) {
        return isAxis(axis) ? axes[axis].freeSpace : 0f;
    }

    private boolean isItem(int item) {
        return item >= 0 && item < itemCount;
    }

    private boolean isTrack(int axis, int track) {
        return isAxis(axis) && track >= 0 && track < axes[axis].count;
    }

    private static boolean isAxis(int axis) {
        return axis == COLUMNS || axis == ROWS;
    }

    private static boolean isStand(int start, int span) {
        return start >= 0 && start <= MOST_TRACKS
                && span >= 1 && span <= MOST_SPAN
                && start + span <= MOST_TRACKS + 1;
    }

    private static boolean isMeasure(float x) {
        return x >= 0f && x <= 4096f;
    }

    /** -0f counts as 0f, and it passes every comparison that 0f passes. */
    private static float withoutSign(float x) {
        return x == 0f ? 0f : x;
    }

    private static float greater(float a, float b) {
        return a >= b ? a : b;
    }

    private static float lesser(float a, float b) {
        return a <= b ? a : b;
    }

    /** The tracks of one template; the rows behind them stay AUTO, as the tracks behind a template are. */
    private static final class Template {
        final int[] low = new int[MOST_TRACKS];
        final float[] lowNumber = new float[MOST_TRACKS];
        final int[] high = new int[MOST_TRACKS];
        final float[] highNumber = new float[MOST_TRACKS];
        int count;

        Template() {
            clear();
        }

        void clear() {
            count = 0;
            Arrays.fill(low, AUTO);
            Arrays.fill(lowNumber, 0f);
            Arrays.fill(high, AUTO);
            Arrays.fill(highNumber, 0f);
        }

        void copyFrom(Template source) {
            count = source.count;
            System.arraycopy(source.low, 0, low, 0, MOST_TRACKS);
            System.arraycopy(source.lowNumber, 0, lowNumber, 0, MOST_TRACKS);
            System.arraycopy(source.high, 0, high, 0, MOST_TRACKS);
            System.arraycopy(source.highNumber, 0, highNumber, 0, MOST_TRACKS);
        }

        void add(int lowKind, float lowLength, int highKind, float highValue) {
            if (count < MOST_TRACKS) {
                low[count] = lowKind;
                lowNumber[count] = lowLength;
                high[count] = highKind;
                highNumber[count] = highValue;
                count++;
            }
        }

        void repeatFrom(int first, int times) {
            int length = count - first;
            for (int copies = length * (times - 1); copies > 0; copies--) {
                int from = count - length;
                add(low[from], lowNumber[from], high[from], highNumber[from]);
            }
        }
    }

    /**
     * Reads the written text into a draft. A character is only gone past when some template goes on
     * with it, so the place of a refusal is where reading stopped.
     */
    private static final class TemplateReader {
        final Template draft = new Template();
        int next;
        private final char[] text = new char[MOST_CHARACTERS];
        private int length;
        private int kind;
        private float number;
        private boolean inRepeat;
        private int repeatFirst;
        private int repeatTimes;

        boolean append(char c) {
            if (length >= MOST_CHARACTERS || c < 32 || c > 126) {
                return false;
            }
            text[length] = c;
            length++;
            return true;
        }

        void forgetText() {
            length = 0;
        }

        boolean readText() {
            draft.clear();
            next = 0;
            leaveRepeat();
            if (length == 0) {
                return true;
            }
            for (int read = 0; read < MOST_TRACKS; read++) {
                if (!inRepeat && peek() == 'r' && !enterRepeat()) {
                    return false;
                }
                if (!readTrack()) {
                    return false;
                }
                if (inRepeat && take(')')) {
                    draft.repeatFrom(repeatFirst, repeatTimes);
                    leaveRepeat();
                }
                if (next >= length) {
                    return !inRepeat;
                }
                if (!mayHaveOneMore() || !take(' ')) {
                    return false;
                }
            }
            return false;
        }

        private boolean enterRepeat() {
            if (!takeWord("repeat(")) {
                return false;
            }
            int times = peek() - '0';
            if (times < 1 || times > 9 || draft.count + times > MOST_TRACKS) {
                return false;
            }
            next++;
            inRepeat = true;
            repeatFirst = draft.count;
            repeatTimes = times;
            return take(',');
        }

        /** Outside of any repeat the whole template counts once. */
        private void leaveRepeat() {
            inRepeat = false;
            repeatFirst = 0;
            repeatTimes = 1;
        }

        private boolean mayHaveOneMore() {
            int repeated = draft.count - repeatFirst + 1;
            return repeatFirst + repeatTimes * repeated <= MOST_TRACKS;
        }

        private boolean readTrack() {
            if (peek() == 'f') {
                return readFit();
            }
            if (!readPlain()) {
                return false;
            }
            if (kind == MIN && peek() == 'm') {
                return readMinmax();
            }
            if (!readShareSign()) {
                return false;
            }
            if (kind == SHARE) {
                draft.add(AUTO, 0f, SHARE, number);
            } else {
                draft.add(kind, number, kind, number);
            }
            return true;
        }

        private boolean readFit() {
            if (!takeWord("fit(") || !readNumber() || !take(')')) {
                return false;
            }
            draft.add(AUTO, 0f, FIT, number);
            return true;
        }

        /** Reads on behind the min of a minmax. */
        private boolean readMinmax() {
            if (!takeWord("max(") || !readPlain()) {
                return false;
            }
            int lowKind = kind;
            float lowLength = number;
            if (!take(',') || !readPlain() || !readShareSign() || !take(')')) {
                return false;
            }
            draft.add(lowKind, lowLength, kind, number);
            return true;
        }

        /** A number becomes a share when fr stands behind it. */
        private boolean readShareSign() {
            if (kind != LENGTH || peek() != 'f') {
                return true;
            }
            kind = SHARE;
            return takeWord("fr");
        }

        /** Reads a number, auto, min or max. */
        private boolean readPlain() {
            number = 0f;
            if (peek() == 'a') {
                kind = AUTO;
                return takeWord("auto");
            }
            if (!take('m')) {
                kind = LENGTH;
                return readNumber();
            }
            if (peek() == 'a') {
                kind = MAX;
                return takeWord("ax");
            }
            kind = MIN;
            return takeWord("in");
        }

        private boolean readNumber() {
            int start = next;
            int whole = readDigits(4);
            if (next == start) {
                return false;
            }
            number = (float) whole;
            if (!take('.')) {
                return true;
            }
            int behind = next;
            int parts = readDigits(3);
            int places = next - behind;
            if (places == 0) {
                return false;
            }
            float divisor = places == 1 ? 10f : places == 2 ? 100f : 1000f;
            number = number + (float) parts / divisor;
            return true;
        }

        private int readDigits(int atMost) {
            int value = 0;
            for (int i = 0; i < atMost; i++) {
                if (next >= length || text[next] < '0' || text[next] > '9') {
                    return value;
                }
                value = value * 10 + (text[next] - '0');
                next++;
            }
            return value;
        }

        private boolean takeWord(String word) {
            for (int i = 0; i < word.length(); i++) {
                if (!take(word.charAt(i))) {
                    return false;
                }
            }
            return true;
        }

        private boolean take(char c) {
            if (next >= length || text[next] != c) {
                return false;
            }
            next++;
            return true;
        }

        /** The next character; behind the end one that can't be written. */
        private char peek() {
            return next < length ? text[next] : (char) 0;
        }
    }

    /** One axis: what was told of it and of the items on it, and what the latest layout found. */
    private static final class Axis {
        final Template tracksTold = new Template();
        float space;
        float gap;
        int how = AT_START;
        final int[] starts = new int[MOST_ITEMS];
        final int[] spans = new int[MOST_ITEMS];
        final float[] least = new float[MOST_ITEMS];
        final float[] most = new float[MOST_ITEMS];

        int count = -1;
        final float[] bases = new float[MOST_TRACKS];
        final float[] positions = new float[MOST_TRACKS];
        final int[] lines = new int[MOST_ITEMS];
        final float[] extents = new float[MOST_ITEMS];
        float freeSpace;

        void stand(int item, int start, int span) {
            starts[item] = start;
            spans[item] = span;
        }

        boolean covers(int item, float point) {
            if (lines[item] == 0) {
                return false;
            }
            float from = positions[lines[item] - 1];
            return point >= from && point < from + extents[item];
        }

        /** How many tracks the placed items reach. */
        int reach(int items) {
            int reached = 0;
            for (int item = 0; item < items; item++) {
                if (lines[item] != 0) {
                    reached = Math.max(reached, lines[item] + spans[item] - 1);
                }
            }
            return reached;
        }

        /** How many tracks there must be for every item to have a place on this axis. */
        int countAsOther(int items) {
            int needed = Math.max(1, tracksTold.count);
            for (int item = 0; item < items; item++) {
                int start = Math.max(1, starts[item]);
                needed = Math.max(needed, start + spans[item] - 1);
            }
            return needed;
        }
    }

    /** Finds the lines of the items. */
    private static final class Placer {
        private Axis main;
        private Axis other;
        private int items;
        private boolean packed;
        private int otherCount;
        private int cursorMain;
        private int cursorOther;
        private final boolean[] taken = new boolean[MOST_TRACKS * MOST_TRACKS];
        private final int[] lineBehind = new int[MOST_TRACKS + 1];

        Placer(Axis main, Axis other) {
            this.main = main;
            this.other = other;
        }

        int placeAll(Axis mainAxis, Axis otherAxis, int itemCount, boolean isPacked) {
            main = mainAxis;
            other = otherAxis;
            items = itemCount;
            packed = isPacked;
            otherCount = other.countAsOther(items);
            clearPlaces();
            placeTold();
            placeWithMainStart();
            placeByCursor();
            main.count = Math.max(main.tracksTold.count, main.reach(items));
            other.count = otherCount;
            return countPlaced();
        }

        private void clearPlaces() {
            for (int cell = 0; cell < taken.length; cell++) {
                taken[cell] = false;
            }
            Arrays.fill(lineBehind, 1);
            Arrays.fill(main.lines, 0);
            Arrays.fill(other.lines, 0);
            cursorMain = 1;
            cursorOther = 1;
        }

        private void placeTold() {
            for (int item = 0; item < items; item++) {
                if (main.starts[item] != 0 && other.starts[item] != 0) {
                    settle(item, main.starts[item], other.starts[item]);
                }
            }
        }

        private void placeWithMainStart() {
            for (int item = 0; item < items; item++) {
                if (main.starts[item] != 0 && other.starts[item] == 0) {
                    placeOnMainLine(item, main.starts[item]);
                }
            }
        }

        private void placeOnMainLine(int item, int mainLine) {
            int from = packed ? 1 : lineBehind[mainLine];
            for (int otherLine = from; otherLine <= otherCount; otherLine++) {
                if (isOpen(item, mainLine, otherLine)) {
                    settle(item, mainLine, otherLine);
                    lineBehind[mainLine] = otherLine + other.spans[item];
                    return;
                }
            }
        }

        private void placeByCursor() {
            for (int item = 0; item < items; item++) {
                if (main.starts[item] != 0) {
                    continue;
                }
                if (packed) {
                    cursorMain = 1;
                    cursorOther = 1;
                }
                if (other.starts[item] != 0) {
                    placeOnOtherLine(item, other.starts[item]);
                } else {
                    placeAnywhere(item);
                }
            }
        }

        private void placeOnOtherLine(int item, int otherLine) {
            int from = otherLine < cursorOther ? cursorMain + 1 : cursorMain;
            for (int mainLine = from; mainLine <= MOST_TRACKS; mainLine++) {
                if (isOpen(item, mainLine, otherLine)) {
                    settleAtCursor(item, mainLine, otherLine);
                    return;
                }
            }
        }

        private void placeAnywhere(int item) {
            int from = cursorOther;
            for (int mainLine = cursorMain; mainLine <= MOST_TRACKS; mainLine++) {
                for (int otherLine = from; otherLine <= otherCount; otherLine++) {
                    if (isOpen(item, mainLine, otherLine)) {
                        settleAtCursor(item, mainLine, otherLine);
                        return;
                    }
                }
                from = 1;
            }
        }

        private boolean isOpen(int item, int mainLine, int otherLine) {
            int mainEnd = mainLine + main.spans[item];
            int otherEnd = otherLine + other.spans[item];
            if (mainEnd > MOST_TRACKS + 1 || otherEnd > otherCount + 1) {
                return false;
            }
            for (int m = mainLine; m < mainEnd; m++) {
                for (int o = otherLine; o < otherEnd; o++) {
                    if (taken[cellOf(m, o)]) {
                        return false;
                    }
                }
            }
            return true;
        }

        private void settleAtCursor(int item, int mainLine, int otherLine) {
            settle(item, mainLine, otherLine);
            cursorMain = mainLine;
            cursorOther = otherLine;
        }

        private void settle(int item, int mainLine, int otherLine) {
            main.lines[item] = mainLine;
            other.lines[item] = otherLine;
            for (int m = mainLine; m < mainLine + main.spans[item]; m++) {
                for (int o = otherLine; o < otherLine + other.spans[item]; o++) {
                    taken[cellOf(m, o)] = true;
                }
            }
        }

        private static int cellOf(int mainLine, int otherLine) {
            return (mainLine - 1) * MOST_TRACKS + otherLine - 1;
        }

        private int countPlaced() {
            int placed = 0;
            for (int item = 0; item < items; item++) {
                if (main.lines[item] != 0) {
                    placed++;
                }
            }
            return placed;
        }
    }

    /**
     * Works out the sizes and positions of one axis. An endless limit is only ever read as the base
     * of its track, or raised to at least that base, so it is kept as the base itself.
     */
    private static final class Sizer {
        private final Axis axis;
        private final Template told;
        private final float[] bases;
        private final float[] limits = new float[MOST_TRACKS];
        private final boolean[] chosen = new boolean[MOST_TRACKS];
        private int items;

        Sizer(Axis axis) {
            this.axis = axis;
            told = axis.tracksTold;
            bases = axis.bases;
        }

        void workOut(int itemCount) {
            items = itemCount;
            beginSizes();
            meetSingles();
            spreadLeast();
            spreadMost();
            growToLimits();
            giveShares();
            stretch();
            findPositions();
            findExtents();
        }

        private void beginSizes() {
            for (int t = 0; t < axis.count; t++) {
                bases[t] = told.lowNumber[t];
                limits[t] = told.high[t] == LENGTH ? told.highNumber[t] : bases[t];
            }
            raiseLimits();
        }

        private void raiseLimits() {
            for (int t = 0; t < axis.count; t++) {
                limits[t] = greater(limits[t], bases[t]);
            }
        }

        private void meetSingles() {
            for (int item = 0; item < items; item++) {
                if (axis.lines[item] != 0 && axis.spans[item] == 1) {
                    int t = axis.lines[item] - 1;
                    meetLow(t, axis.least[item], axis.most[item]);
                    meetHigh(t, axis.least[item], axis.most[item]);
                }
            }
            raiseLimits();
        }

        private void meetLow(int t, float least, float most) {
            if (told.low[t] == MIN || told.low[t] == AUTO) {
                bases[t] = greater(bases[t], least);
            } else if (told.low[t] == MAX) {
                bases[t] = greater(bases[t], most);
            }
        }

        private void meetHigh(int t, float least, float most) {
            if (told.high[t] == MIN) {
                limits[t] = greater(limits[t], least);
            } else if (told.high[t] == MAX || told.high[t] == AUTO) {
                limits[t] = greater(limits[t], most);
            } else if (told.high[t] == FIT) {
                limits[t] = greater(limits[t], lesser(most, told.highNumber[t]));
            }
        }

        private void spreadLeast() {
            for (int span = 2; span <= MOST_SPAN; span++) {
                for (int item = 0; item < items; item++) {
                    if (axis.lines[item] != 0 && axis.spans[item] == span) {
                        spread(axis.least[item], bases, item, chooseNeedy(item));
                    }
                }
            }
            raiseLimits();
        }

        private int chooseNeedy(int item) {
            int needy = 0;
            for (int t = firstOf(item); t < endOf(item); t++) {
                chosen[t] = told.low[t] != LENGTH && told.high[t] != SHARE;
                needy += chosen[t] ? 1 : 0;
            }
            return needy;
        }

        private void spreadMost() {
            for (int span = 2; span <= MOST_SPAN; span++) {
                for (int item = 0; item < items; item++) {
                    if (axis.lines[item] != 0 && axis.spans[item] == span) {
                        spread(axis.most[item], limits, item, chooseWide(item));
                    }
                }
            }
        }

        private int chooseWide(int item) {
            int wide = 0;
            for (int t = firstOf(item); t < endOf(item); t++) {
                int high = told.high[t];
                chosen[t] = high == MAX || high == AUTO || high == FIT;
                wide += chosen[t] ? 1 : 0;
            }
            return wide;
        }

        /** Spreads x over those sizes of the item's tracks that are chosen, so many as told. */
        private void spread(float x, float[] sizes, int item, int howMany) {
            if (howMany == 0) {
                return;
            }
            float rest = lessGaps(lessSizes(x, sizes, item), axis.spans[item]);
            if (rest > 0f) {
                float part = rest / (float) howMany;
                for (int t = firstOf(item); t < endOf(item); t++) {
                    if (chosen[t]) {
                        sizes[t] = sizes[t] + part;
                    }
                }
            }
        }

        private float lessSizes(float x, float[] sizes, int item) {
            float rest = x;
            for (int t = firstOf(item); t < endOf(item); t++) {
                rest = rest - sizes[t];
            }
            return rest;
        }

        private float lessGaps(float x, int trackCount) {
            float rest = x;
            for (int t = 1; t < trackCount; t++) {
                rest = rest - axis.gap;
            }
            return rest;
        }

        private float restOfSpace() {
            float rest = axis.space;
            for (int t = 0; t < axis.count; t++) {
                rest = rest - bases[t];
            }
            return lessGaps(rest, axis.count);
        }

        private void growToLimits() {
            float rest = restOfSpace();
            for (int times = 0; times < MOST_GROWTHS && rest > 0f; times++) {
                int growing = countGrowing();
                if (growing == 0) {
                    return;
                }
                rest = growOnce(rest, rest / (float) growing);
            }
        }

        private int countGrowing() {
            int growing = 0;
            for (int t = 0; t < axis.count; t++) {
                if (bases[t] < limits[t]) {
                    growing++;
                }
            }
            return growing;
        }

        /** Answers what is left of the rest. */
        private float growOnce(float rest, float part) {
            float left = rest;
            for (int t = 0; t < axis.count; t++) {
                if (bases[t] < limits[t]) {
                    float gets = lesser(limits[t] - bases[t], part);
                    // base + (limit - base) may miss the limit by rounding
                    bases[t] = gets < limits[t] - bases[t] ? bases[t] + gets : limits[t];
                    left = left - gets;
                }
            }
            return left;
        }

        private void giveShares() {
            for (int t = 0; t < axis.count; t++) {
                chosen[t] = told.high[t] == SHARE;
            }
            float left = spaceForShares();
            // each time sets aside one track or more
            for (int times = 0; times < MOST_TRACKS && hasTooGreat(oneShare(left)); times++) {
                left = setAside(oneShare(left), left);
            }
            setShares(oneShare(left));
        }

        private boolean hasTooGreat(float share) {
            for (int t = 0; t < axis.count; t++) {
                if (isTooGreat(t, share)) {
                    return true;
                }
            }
            return false;
        }

        private boolean isTooGreat(int t, float share) {
            return chosen[t] && bases[t] > told.highNumber[t] * share;
        }

        /** Answers what is left without the bases of those set aside. */
        private float setAside(float share, float left) {
            float rest = left;
            for (int t = 0; t < axis.count; t++) {
                if (isTooGreat(t, share)) {
                    chosen[t] = false;
                    rest = rest - bases[t];
                }
            }
            return rest;
        }

        private void setShares(float share) {
            for (int t = 0; t < axis.count; t++) {
                if (chosen[t]) {
                    bases[t] = told.highNumber[t] * share;
                }
            }
        }

        private float spaceForShares() {
            float left = lessGaps(axis.space, axis.count);
            for (int t = 0; t < axis.count; t++) {
                if (told.high[t] != SHARE) {
                    left = left - bases[t];
                }
            }
            return left;
        }

        /** One share of what is left, among the tracks chosen. */
        private float oneShare(float left) {
            float sum = 0f;
            for (int t = 0; t < axis.count; t++) {
                if (chosen[t]) {
                    sum = sum + told.highNumber[t];
                }
            }
            return left > 0f ? left / greater(sum, 1f) : 0f;
        }

        private void stretch() {
            axis.freeSpace = restOfSpace();
            int autos = 0;
            for (int t = 0; t < axis.count; t++) {
                autos += told.high[t] == AUTO ? 1 : 0;
            }
            if (axis.how != STRETCHED || autos == 0 || axis.freeSpace <= 0f) {
                return;
            }
            float part = axis.freeSpace / (float) autos;
            for (int t = 0; t < axis.count; t++) {
                if (told.high[t] == AUTO) {
                    bases[t] = bases[t] + part;
                }
            }
            axis.freeSpace = restOfSpace();
        }

        private void findPositions() {
            float position = firstPosition();
            for (int t = 0; t < axis.count; t++) {
                axis.positions[t] = position;
                position = position + bases[t] + axis.gap;
            }
        }

        private float firstPosition() {
            if (axis.freeSpace <= 0f) {
                return 0f;
            }
            if (axis.how == AT_MIDDLE) {
                return axis.freeSpace / 2f;
            }
            return axis.how == AT_END ? axis.freeSpace : 0f;
        }

        private void findExtents() {
            for (int item = 0; item < items; item++) {
                if (axis.lines[item] != 0) {
                    axis.extents[item] = extentOf(item);
                }
            }
        }

        private float extentOf(int item) {
            float sum = 0f;
            for (int t = firstOf(item); t < endOf(item); t++) {
                sum = sum + bases[t];
            }
            for (int t = 1; t < axis.spans[item]; t++) {
                sum = sum + axis.gap;
            }
            return sum;
        }

        private int firstOf(int item) {
            return axis.lines[item] - 1;
        }

        private int endOf(int item) {
            return axis.lines[item] - 1 + axis.spans[item];
        }
    }
}
