import java.util.NoSuchElementException;

/** Promises 12, 13, 15 to 17 and POSITIONS: each sentence that names a bound, at it and just beyond it. */
public final class AnswersBoundsTest {
    private static final int[] FAR = {Integer.MIN_VALUE, Integer.MIN_VALUE + 1, -12, -1, 12, 13, Integer.MAX_VALUE};
    private static final float[] FAR_POINTS = {Float.NEGATIVE_INFINITY, -Float.MAX_VALUE, -1f, 4096f, Float.MAX_VALUE,
        Float.POSITIVE_INFINITY, Float.NaN, Float.intBitsToFloat(0xffffffff)};

    public static void main(String[] args) {
        Check.sentence("the first track is at 0f, or, when FREE is above 0f ..", AnswersBoundsTest::firstPositions);
        Check.sentence("each next one is at that of the one before, plus its base, plus the gap", AnswersBoundsTest::nextPositions);
        Check.sentence("the sum of its tracks' bases, plus the gap for each but one", AnswersBoundsTest::sumsOfItems);
        Check.sentence("size: NoSuchElementException when there is none", AnswersBoundsTest::noTrackOfSize);
        Check.sentence("at: NoSuchElementException when there is none", AnswersBoundsTest::noTrackOfPosition);
        Check.sentence("size and at when no layout was made", AnswersBoundsTest::noLayout);
        Check.sentence("extent: NoSuchElementException when line answers 0", AnswersBoundsTest::noExtent);
        Check.sentence("hit: the item with the least number", AnswersBoundsTest::leastNumber);
        Check.sentence("hit: of those placed", AnswersBoundsTest::hitOfPlaced);
        Check.sentence("from its positions on, below position + size, on both axes", AnswersBoundsTest::edgesOfItems);
        Check.sentence("hit: -1 when there is none", AnswersBoundsTest::noHit);
        Check.sentence("hit: any float", AnswersBoundsTest::farPoints);
        Check.sentence("free: perhaps below 0f", AnswersBoundsTest::freeBelowZero);
        Check.sentence("free: 0f when there is no such axis, or no layout was made", AnswersBoundsTest::noFree);
        Check.sentence("What is to be seen below is of the latest layout", AnswersBoundsTest::latestLayout);
        Check.finish();
    }

    private static void firstPositions() {
        float[] spaces = {Math.nextDown(5f), 5f, Math.nextUp(5f), 9f};
        for (int axis = 0; axis < 2; axis++) {
            for (float space : spaces) {
                float free = space - 5f;
                float[] due = {0f, free > 0f ? free / 2f : 0f, free > 0f ? free : 0f, 0f};
                for (int how = 0; how < 4; how++) {
                    TrackGrid grid = new TrackGrid();
                    Check.template(grid, axis, "2 3", 2);
                    grid.room(axis, space, 0f);
                    grid.put(axis, how);
                    grid.layout();
                    Check.isFloat("free", grid.free(axis), free);
                    Check.isFloat("at with " + free + " free", grid.at(axis, 0), due[how]);
                    Check.isFloat("the next", grid.at(axis, 1), due[how] + 2f);
                }
            }
        }
    }

    private static void nextPositions() {
        float[] gaps = {0f, 0.3f, 4096f};
        for (float gap : gaps) {
            TrackGrid grid = Grids.columns("0.1 0.7 2.3 0 9999", 5, 0f, gap);
            grid.layout();
            float due = 0f;
            for (int t = 0; t < 5; t++) {
                Check.isFloat("at of track " + t, grid.at(0, t), due);
                due = due + grid.size(0, t) + gap;
            }
        }
        TrackGrid greatest = Grids.columns("repeat(9,9999.999) repeat(3,9999.999)", 12, 4096f, 4096f);
        greatest.layout();
        float due = 0f;
        for (int t = 1; t < 12; t++) {
            due = due + (9999f + 999f / 1000f) + 4096f;
        }
        Check.isFloat("at of the last", greatest.at(0, 11), due);
    }

    private static void sumsOfItems() {
        float gap = 0.3f;
        TrackGrid grid = Grids.columns("0.1 0.7 2.3 0.9", 4, 0f, gap);
        for (int span = 1; span <= 4; span++) {
            Grids.item(grid, 1, span, 0f, 0f);
        }
        grid.layout();
        float one = 1f / 10f;
        float two = one + 7f / 10f;
        float three = two + (2f + 3f / 10f);
        float four = three + 9f / 10f;
        Check.isFloat("span 1", grid.extent(0, 0), one);
        Check.isFloat("span 2", grid.extent(1, 0), two + gap);
        Check.isFloat("span 3", grid.extent(2, 0), three + gap + gap);
        Check.isFloat("span 4", grid.extent(3, 0), four + gap + gap + gap);
        // tracks of 0f, and gaps alone
        TrackGrid empty = Grids.columns("0 0 0 0", 4, 0f, 4096f);
        Grids.item(empty, 1, 1, 0f, 0f);
        Grids.item(empty, 1, 4, 0f, 0f);
        empty.layout();
        Check.isFloat("no gap", empty.extent(0, 0), 0f);
        Check.isFloat("three gaps", empty.extent(1, 0), 3f * 4096f);
    }

    private static void noTrackOfSize() {
        TrackGrid grid = Grids.columns("3 4", 2, 0f, 0f);
        grid.layout();
        Check.isFloat("the first", grid.size(0, 0), 3f);
        Check.isFloat("the last", grid.size(0, 1), 4f);
        Check.throwing("one behind", NoSuchElementException.class, () -> grid.size(0, 2));
        Check.throwing("no row", NoSuchElementException.class, () -> grid.size(1, 0));
        for (int far : FAR) {
            Check.throwing("track " + far, NoSuchElementException.class, () -> grid.size(0, far));
        }
        for (int axis : Grids.noAxes()) {
            Check.throwing("axis " + axis, NoSuchElementException.class, () -> grid.size(axis, 0));
            Check.throwing("track and axis " + axis, NoSuchElementException.class, () -> grid.size(axis, axis));
        }
        Check.template(grid, 1, Grids.ones(12), 12);
        grid.layout();
        Check.isFloat("the twelfth", grid.size(1, 11), 1f);
        Check.throwing("no thirteenth", NoSuchElementException.class, () -> grid.size(1, 12));
        // fewer tracks than before
        Check.template(grid, 1, "", 0);
        Check.template(grid, 0, "9", 1);
        grid.layout();
        Check.throwing("no longer", NoSuchElementException.class, () -> grid.size(1, 0));
        Check.throwing("no longer", NoSuchElementException.class, () -> grid.size(0, 1));
        Check.isFloat("still", grid.size(0, 0), 9f);
    }

    private static void noTrackOfPosition() {
        TrackGrid grid = Grids.columns("3 4", 2, 0f, 0f);
        grid.layout();
        Check.isFloat("the first", grid.at(0, 0), 0f);
        Check.isFloat("the last", grid.at(0, 1), 3f);
        Check.throwing("one behind", NoSuchElementException.class, () -> grid.at(0, 2));
        Check.throwing("no row", NoSuchElementException.class, () -> grid.at(1, 0));
        for (int far : FAR) {
            Check.throwing("track " + far, NoSuchElementException.class, () -> grid.at(0, far));
        }
        for (int axis : Grids.noAxes()) {
            Check.throwing("axis " + axis, NoSuchElementException.class, () -> grid.at(axis, 0));
            Check.throwing("track and axis " + axis, NoSuchElementException.class, () -> grid.at(axis, axis));
        }
        Check.template(grid, 1, Grids.ones(12), 12);
        grid.layout();
        Check.isFloat("the twelfth", grid.at(1, 11), 11f);
        Check.throwing("no thirteenth", NoSuchElementException.class, () -> grid.at(1, 12));
        Check.template(grid, 1, "", 0);
        Check.template(grid, 0, "9", 1);
        grid.layout();
        Check.throwing("no longer", NoSuchElementException.class, () -> grid.at(1, 0));
        Check.throwing("no longer", NoSuchElementException.class, () -> grid.at(0, 1));
    }

    private static void noLayout() {
        TrackGrid grid = Grids.columns("3 4", 2, 9f, 0f);
        Check.template(grid, 1, "5", 1);
        for (int axis = 0; axis < 2; axis++) {
            int a = axis;
            Check.throwing("size", NoSuchElementException.class, () -> grid.size(a, 0));
            Check.throwing("at", NoSuchElementException.class, () -> grid.at(a, 0));
            Check.throwing("size", NoSuchElementException.class, () -> grid.size(a, -1));
            Check.throwing("at", NoSuchElementException.class, () -> grid.at(a, -1));
        }
        grid.layout();
        Check.isFloat("size", grid.size(1, 0), 5f);
        Check.isFloat("at", grid.at(1, 0), 0f);
    }

    private static void noExtent() {
        TrackGrid grid = Grids.columns("3", 1, 0f, 0f);
        noExtentOf(grid, 0);
        grid.item(1, 1, 1, 1);
        noExtentOf(grid, 0);
        grid.layout();
        Check.isFloat("extent", grid.extent(0, 0), 3f);
        Check.isFloat("extent", grid.extent(0, 1), 0f);
        for (int far : FAR) {
            noExtentOf(grid, far);
        }
        for (int axis : Grids.noAxes()) {
            Check.throwing("extent on axis " + axis, NoSuchElementException.class, () -> grid.extent(0, axis));
            Check.throwing("extent of no item on axis " + axis, NoSuchElementException.class, () -> grid.extent(axis, axis));
        }
        // made behind the latest layout, then without a place, then with one, then without again
        grid.item(0, 1, 1, 1);
        noExtentOf(grid, 1);
        Check.is("layout", grid.layout(), 1);
        noExtentOf(grid, 1);
        Check.template(grid, 0, "3 4", 2);
        noExtentOf(grid, 1);
        Check.is("layout", grid.layout(), 2);
        Check.isFloat("extent", grid.extent(1, 0), 4f);
        Check.template(grid, 0, "3", 1);
        Check.isFloat("extent", grid.extent(1, 0), 4f);
        Check.is("layout", grid.layout(), 1);
        noExtentOf(grid, 1);
        Check.isFloat("extent", grid.extent(0, 0), 3f);
    }

    private static void noExtentOf(TrackGrid grid, int item) {
        for (int axis = 0; axis < 2; axis++) {
            int a = axis;
            Check.is("line of item " + item, grid.line(item, a), 0);
            Check.throwing("extent of item " + item, NoSuchElementException.class, () -> grid.extent(item, a));
        }
    }

    private static TrackGrid squares() {
        TrackGrid grid = Grids.columns("10 20 30", 3, 100f, 2f);
        Check.template(grid, 1, "5 6", 2);
        grid.put(0, 2);
        return grid;
    }

    private static void leastNumber() {
        TrackGrid grid = squares();
        for (int i = 0; i < 10; i++) {
            grid.item(i == 9 ? 1 : 2, 1, 1, 1);
        }
        Check.is("layout", grid.layout(), 10);
        Check.is("the first of nine", grid.hit(50f, 2f), 0);
        Check.is("the tenth", grid.hit(40f, 2f), 9);
        Check.is("none of ten", grid.hit(80f, 2f), -1);
    }

    private static void hitOfPlaced() {
        TrackGrid grid = new TrackGrid();
        Check.template(grid, 0, "10", 1);
        Check.template(grid, 1, "10 10", 2);
        grid.item(0, 1, 2, 1);
        grid.item(1, 1, 2, 1);
        Check.is("no layout", grid.hit(5f, 15f), -1);
        Check.is("layout", grid.layout(), 1);
        Check.is("the first is not placed", grid.hit(5f, 15f), 1);
        Check.is("nor does it stand at the start", grid.hit(0f, 0f), -1);
        grid.item(1, 1, 1, 1);
        Check.is("made behind the latest layout", grid.hit(5f, 5f), -1);
        Check.is("layout", grid.layout(), 2);
        Check.is("now it is there", grid.hit(5f, 5f), 2);
    }

    /** The columns stand at 36, 48 and 70, the rows at 0 and 5; the item covers 48 to 100, and 5 to 11. */
    private static void edgesOfItems() {
        TrackGrid grid = squares();
        grid.item(2, 2, 2, 1);
        grid.layout();
        float[] xs = {Math.nextDown(48f), 48f, Math.nextUp(48f), 69f, Math.nextDown(100f), 100f, Math.nextUp(100f)};
        boolean[] within = {false, true, true, true, true, false, false};
        float[] ys = {Math.nextDown(5f), 5f, Math.nextUp(5f), 8f, Math.nextDown(11f), 11f, Math.nextUp(11f)};
        for (int i = 0; i < xs.length; i++) {
            for (int j = 0; j < ys.length; j++) {
                Check.is("hit(" + xs[i] + ", " + ys[j] + ")", grid.hit(xs[i], ys[j]), within[i] && within[j] ? 0 : -1);
            }
        }
        // the end is position + size in floats, wherever the next track stands
        TrackGrid odd = new TrackGrid();
        Check.template(odd, 1, "1000.1 0.007 0.009 5", 4);
        Check.template(odd, 0, "1", 1);
        odd.item(1, 1, 2, 2);
        odd.item(1, 1, 4, 1);
        odd.layout();
        float end = (1000f + 1f / 10f) + (7f / 1000f + 9f / 1000f);
        Check.is("before the end", odd.hit(0f, Math.nextDown(end)), 0);
        Check.is("at the end", odd.hit(0f, end) == 0, false);
        Check.is("from 0f on", odd.hit(-Float.MIN_VALUE, Math.nextDown(end)), -1);
        Check.is("-0f is no less than 0f", odd.hit(-0f, Math.nextDown(end)), 0);
    }

    private static void noHit() {
        TrackGrid none = new TrackGrid();
        Check.is("no layout", none.hit(0f, 0f), -1);
        none.layout();
        Check.is("no item", none.hit(0f, 0f), -1);
        // without any size nothing is covered, not even the position itself
        TrackGrid flat = Grids.columns("10", 1, 0f, 0f);
        flat.item(1, 1, 1, 1);
        flat.layout();
        Check.is("no height", flat.hit(0f, 0f), -1);
        flat.need(0, 1, Float.MIN_VALUE, Float.MIN_VALUE);
        flat.layout();
        Check.is("the least height", flat.hit(0f, 0f), 0);
        Check.is("and its end", flat.hit(0f, Float.MIN_VALUE), -1);
        // the gap between two items
        TrackGrid apart = squares();
        apart.item(1, 1, 1, 1);
        apart.item(2, 1, 1, 1);
        apart.layout();
        Check.is("the first", apart.hit(Math.nextDown(46f), 0f), 0);
        Check.is("the gap", apart.hit(46f, 0f), -1);
        Check.is("the gap", apart.hit(Math.nextDown(48f), 0f), -1);
        Check.is("the second", apart.hit(48f, 0f), 1);
    }

    private static void farPoints() {
        TrackGrid grid = squares();
        grid.item(2, 2, 2, 1);
        grid.layout();
        for (float far : FAR_POINTS) {
            Check.is("x " + far, grid.hit(far, 7f), -1);
            Check.is("y " + far, grid.hit(60f, far), -1);
            Check.is("both " + far, grid.hit(far, far), -1);
        }
        Check.is("a point within", grid.hit(60f, 7f), 0);
    }

    private static void freeBelowZero() {
        float[] spaces = {0f, Math.nextDown(5f), 5f, Math.nextUp(5f), 4096f};
        for (int axis = 0; axis < 2; axis++) {
            for (float space : spaces) {
                TrackGrid grid = new TrackGrid();
                Check.template(grid, axis, "1 3", 2);
                grid.room(axis, space, 1f);
                grid.layout();
                Check.isFloat("free", grid.free(axis), space - 1f - 3f - 1f);
            }
        }
        TrackGrid least = Grids.columns("repeat(9,9999.999) repeat(3,9999.999)", 12, 0f, 4096f);
        least.layout();
        float due = 0f;
        for (int t = 0; t < 12; t++) {
            due = due - (9999f + 999f / 1000f);
        }
        for (int t = 1; t < 12; t++) {
            due = due - 4096f;
        }
        Check.isFloat("free", least.free(0), due);
    }

    private static void noFree() {
        TrackGrid grid = Grids.columns("1", 1, 8f, 0f);
        grid.room(1, 9f, 0f);
        Check.isFloat("no layout", grid.free(0), 0f);
        Check.isFloat("no layout", grid.free(1), 0f);
        for (int axis : Grids.noAxes()) {
            Check.isFloat("axis " + axis, grid.free(axis), 0f);
        }
        grid.layout();
        Check.isFloat("free", grid.free(0), 7f);
        Check.isFloat("free", grid.free(1), 9f);
        for (int axis : Grids.noAxes()) {
            Check.isFloat("axis " + axis, grid.free(axis), 0f);
        }
    }

    private static void latestLayout() {
        TrackGrid grid = squares();
        grid.item(2, 2, 2, 1);
        grid.layout();
        Check.template(grid, 0, "1", 1);
        Check.template(grid, 1, "", 0);
        Check.is("need", grid.need(0, 0, 9f, 9f), true);
        Check.is("room", grid.room(0, 7f, 1f), true);
        Check.is("put", grid.put(0, 1), true);
        grid.flow(true, true);
        Check.is("item", grid.item(1, 1, 1, 1), 1);
        Check.sizes(grid, 0, 10f, 20f, 30f);
        Check.sizes(grid, 1, 5f, 6f);
        Check.isFloat("at", grid.at(0, 1), 48f);
        Check.isFloat("extent", grid.extent(0, 0), 52f);
        Check.isFloat("free", grid.free(0), 36f);
        Check.is("hit", grid.hit(99f, 10f), 0);
        Check.is("layout", grid.layout(), 2);
        Check.sizes(grid, 0, 1f, 4f, 4f);
        Check.sizes(grid, 1, 0f, 0f);
    }
}
