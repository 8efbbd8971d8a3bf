/** Promises 1 and 5 to 9: each sentence that names a bound, at it and just beyond it. */
public final class TellingBoundsTest {
    private static final int[] FAR = {Integer.MIN_VALUE, Integer.MIN_VALUE + 1, -13, Integer.MAX_VALUE - 3, Integer.MAX_VALUE};

    public static void main(String[] args) {
        Check.sentence("No templates, no items, .. gaps 0f, space 0f", TellingBoundsTest::newObject);
        Check.sentence("a start is not 0 .. 12", TellingBoundsTest::starts);
        Check.sentence("a span not 1 .. 4", TellingBoundsTest::spans);
        Check.sentence("or a start + span above 13", TellingBoundsTest::sums);
        Check.sentence("IllegalStateException, asked behind that, when there are 10", TellingBoundsTest::tenItems);
        Check.sentence("A new item, with needs 0f: its number", TellingBoundsTest::numbersAndNeeds);
        Check.sentence("false when there is no such item", TellingBoundsTest::needOfNoItem);
        Check.sentence("false when there is no such .. axis", TellingBoundsTest::needOnNoAxis);
        Check.sentence("floats least and most, 0f .. 4096f", TellingBoundsTest::needMeasures);
        Check.sentence("least not above most", TellingBoundsTest::leastAndMost);
        Check.sentence("what is no number is not", TellingBoundsTest::needNoNumber);
        Check.sentence("-0f counts as 0f, also as space and gap", TellingBoundsTest::zeroWithSign);
        Check.sentence("room: false when there is no such axis", TellingBoundsTest::roomOnNoAxis);
        Check.sentence("or one is not 0f .. 4096f", TellingBoundsTest::roomMeasures);
        Check.sentence("0 start, 1 middle, 2 end, 3 stretched (start)", TellingBoundsTest::hows);
        Check.sentence("put: false when there is no such axis", TellingBoundsTest::putOnNoAxis);
        Check.sentence("The flow (along columns or rows) and whether it is packed", TellingBoundsTest::flows);
        Check.finish();
    }

    private static void newObject() {
        TrackGrid grid = new TrackGrid();
        Check.is("no item", grid.need(0, 0, 0f, 0f), false);
        Check.is("layout", grid.layout(), 0);
        Check.sizes(grid, 0, 0f);
        Check.sizes(grid, 1);
        Check.isFloat("space of columns", grid.free(0), 0f);
        Check.isFloat("space of rows", grid.free(1), 0f);
        TrackGrid gaps = new TrackGrid();
        Check.template(gaps, 0, "1 1", 2);
        Check.template(gaps, 1, "1 1", 2);
        gaps.layout();
        Check.isFloat("gap of columns", gaps.at(0, 1), 1f);
        Check.isFloat("gap of rows", gaps.at(1, 1), 1f);
        Check.isFloat("free without gaps", gaps.free(0), -2f);
        Check.is("the first item", gaps.item(0, 1, 0, 1), 0);
    }

    private static void starts() {
        for (int start = 0; start <= 12; start++) {
            stands(start, 1);
        }
        refused(-1, 1);
        refused(13, 1);
        for (int far : FAR) {
            refused(far, 1);
        }
    }

    private static void spans() {
        for (int span = 1; span <= 4; span++) {
            stands(0, span);
            stands(1, span);
        }
        for (int start = 0; start <= 1; start++) {
            refused(start, 0);
            refused(start, 5);
            refused(start, -1);
            for (int far : FAR) {
                refused(start, far);
            }
        }
    }

    private static void sums() {
        for (int span = 1; span <= 4; span++) {
            stands(12 - span, span);
            stands(13 - span, span);
            refused(14 - span, span);
        }
        // sums that come back below 13 by Java's wrap-around
        refused(Integer.MAX_VALUE, 4);
        refused(4, Integer.MAX_VALUE);
        refused(Integer.MAX_VALUE, Integer.MAX_VALUE);
        refused(Integer.MIN_VALUE, Integer.MIN_VALUE);
        // sums below 13 of what is itself not so
        refused(-1, 4);
        refused(8, 5);
        refused(12, 0);
    }

    private static void stands(int start, int span) {
        Check.is("item at columns " + start + ", " + span, new TrackGrid().item(start, span, 0, 1), 0);
        Check.is("item at rows " + start + ", " + span, new TrackGrid().item(0, 1, start, span), 0);
        Check.is("item at both " + start + ", " + span, new TrackGrid().item(start, span, start, span), 0);
    }

    private static void refused(int start, int span) {
        TrackGrid grid = new TrackGrid();
        String what = start + ", " + span;
        Check.throwing("item at columns " + what, IllegalArgumentException.class, () -> grid.item(start, span, 0, 1));
        Check.throwing("item at rows " + what, IllegalArgumentException.class, () -> grid.item(0, 1, start, span));
        Check.throwing("item at both " + what, IllegalArgumentException.class, () -> grid.item(start, span, start, span));
        Check.is("a refused one is no item", grid.layout(), 0);
        Check.is("nor has it a number", grid.item(0, 1, 0, 1), 0);
    }

    private static void tenItems() {
        TrackGrid grid = new TrackGrid();
        for (int i = 0; i < 10; i++) {
            Check.throwing("a bad one with " + i, IllegalArgumentException.class, () -> grid.item(13, 1, 0, 1));
            Check.is("item", grid.item(0, 1, 0, 1), i);
        }
        Check.throwing("the eleventh", IllegalStateException.class, () -> grid.item(0, 1, 0, 1));
        Check.throwing("the eleventh, told", IllegalStateException.class, () -> grid.item(12, 1, 9, 4));
        Check.throwing("column", IllegalArgumentException.class, () -> grid.item(13, 1, 0, 1));
        Check.throwing("columns", IllegalArgumentException.class, () -> grid.item(0, 5, 0, 1));
        Check.throwing("row", IllegalArgumentException.class, () -> grid.item(0, 1, -1, 1));
        Check.throwing("rows", IllegalArgumentException.class, () -> grid.item(0, 1, 0, 0));
        Check.throwing("sum", IllegalArgumentException.class, () -> grid.item(0, 1, 12, 2));
        Check.is("layout", grid.layout(), 10);
        Check.throwing("behind a layout", IllegalStateException.class, () -> grid.item(0, 1, 0, 1));
        Check.is("line of the tenth", grid.line(9, 1), 10);
        Check.is("line of no eleventh", grid.line(10, 1), 0);
    }

    private static void numbersAndNeeds() {
        TrackGrid grid = Grids.columns("auto max min", 3, 4096f, 0f);
        for (int i = 0; i < 10; i++) {
            Check.is("number", grid.item(1 + i % 3, 1, 1 + i % 4, 1), i);
        }
        Check.is("layout", grid.layout(), 10);
        Check.sizes(grid, 0, 0f, 0f, 0f);
        Check.sizes(grid, 1, 0f, 0f, 0f, 0f);
    }

    private static void needOfNoItem() {
        TrackGrid grid = new TrackGrid();
        for (int items = 0; items <= 10; items++) {
            for (int axis = 0; axis < 2; axis++) {
                Check.is("need of -1", grid.need(-1, axis, 1f, 2f), false);
                Check.is("need of the last", items > 0 && grid.need(items - 1, axis, 1f, 2f), items > 0);
                Check.is("need of one behind it", grid.need(items, axis, 1f, 2f), false);
                Check.is("need of the least int", grid.need(Integer.MIN_VALUE, axis, 1f, 2f), false);
                Check.is("need of the greatest int", grid.need(Integer.MAX_VALUE, axis, 1f, 2f), false);
            }
            if (items < 10) {
                grid.item(0, 1, 0, 1);
            }
        }
        // what was told of an item that was not there is not kept for it
        TrackGrid later = new TrackGrid();
        Check.is("need", later.need(0, 0, 5f, 5f), false);
        later.item(1, 1, 1, 1);
        later.layout();
        Check.sizes(later, 0, 0f);
    }

    private static void needOnNoAxis() {
        TrackGrid grid = new TrackGrid();
        grid.item(1, 1, 1, 1);
        Check.is("need on columns", grid.need(0, 0, 3f, 4f), true);
        Check.is("need on rows", grid.need(0, 1, 5f, 6f), true);
        for (int axis : Grids.noAxes()) {
            Check.is("need on axis " + axis, grid.need(0, axis, 7f, 8f), false);
            Check.is("of no item", grid.need(1, axis, 7f, 8f), false);
        }
        grid.layout();
        Check.sizes(grid, 0, 3f);
        Check.sizes(grid, 1, 5f);
    }

    private static void needMeasures() {
        float[] good = {0f, Float.MIN_VALUE, Float.MIN_NORMAL, 0.1f, 1f, 4095f, Math.nextDown(4096f), 4096f};
        for (float x : good) {
            TrackGrid grid = new TrackGrid();
            grid.item(1, 1, 1, 1);
            Check.is("least and most " + x, grid.need(0, 0, x, x), true);
            Check.is("least 0f, most " + x, grid.need(0, 1, 0f, x), true);
            grid.layout();
            Check.sizes(grid, 0, x);
            Check.sizes(grid, 1, 0f);
            grid.room(1, 4096f, 0f);
            grid.layout();
            Check.sizes(grid, 1, x);
        }
        for (float x : Grids.noMeasures()) {
            for (int axis = 0; axis < 2; axis++) {
                TrackGrid grid = new TrackGrid();
                grid.item(1, 1, 1, 1);
                grid.need(0, axis, 3f, 4f);
                grid.room(axis, 4096f, 0f);
                Check.is("least " + x, grid.need(0, axis, x, 4096f), false);
                Check.is("most " + x, grid.need(0, axis, 0f, x), false);
                Check.is("both " + x, grid.need(0, axis, x, x), false);
                grid.layout();
                Check.isFloat("what is refused changes nothing", grid.size(axis, 0), 4f);
                grid.room(axis, 0f, 0f);
                grid.layout();
                Check.isFloat("what is refused changes nothing", grid.size(axis, 0), 3f);
            }
        }
    }

    private static void leastAndMost() {
        TrackGrid grid = new TrackGrid();
        grid.item(1, 1, 1, 1);
        float[] mosts = {Float.MIN_VALUE, 1f, 7.3f, Math.nextDown(4096f)};
        for (float most : mosts) {
            Check.is("least below " + most, grid.need(0, 0, Math.nextDown(most), most), true);
            Check.is("least " + most, grid.need(0, 0, most, most), true);
            Check.is("least above " + most, grid.need(0, 0, Math.nextUp(most), most), false);
            grid.layout();
            Check.sizes(grid, 0, most);
        }
        Check.is("the least, the greatest", grid.need(0, 0, 0f, 4096f), true);
        Check.is("the other way", grid.need(0, 0, 4096f, 0f), false);
        Check.is("nothing at all", grid.need(0, 0, 0f, 0f), true);
        Check.is("least above nothing", grid.need(0, 0, Float.MIN_VALUE, 0f), false);
    }

    private static void needNoNumber() {
        TrackGrid grid = new TrackGrid();
        grid.item(1, 1, 1, 1);
        Check.is("need", grid.need(0, 0, 2f, 3f), true);
        Check.is("least", grid.need(0, 0, Float.NaN, 3f), false);
        Check.is("most", grid.need(0, 0, 2f, Float.NaN), false);
        Check.is("both", grid.need(0, 0, Float.NaN, Float.NaN), false);
        grid.layout();
        Check.sizes(grid, 0, 2f);
        // nor is a room so that holds what is no number
        Check.is("space", grid.room(0, Float.NaN, 1f), false);
        Check.is("gap", grid.room(0, 1f, Float.NaN), false);
        Check.is("both", grid.room(0, Float.NaN, Float.NaN), false);
        grid.layout();
        Check.isFloat("free", grid.free(0), -2f);
    }

    private static void zeroWithSign() {
        TrackGrid grid = new TrackGrid();
        grid.item(1, 2, 1, 2);
        Check.is("least and most", grid.need(0, 0, -0f, -0f), true);
        Check.is("least 0f, most -0f", grid.need(0, 1, 0f, -0f), true);
        Check.is("least -0f, most 0f", grid.need(0, 1, -0f, 0f), true);
        Check.is("space and gap", grid.room(0, -0f, -0f), true);
        Check.is("space", grid.room(1, -0f, 0f), true);
        Check.is("gap", grid.room(1, 0f, -0f), true);
        for (int how = 0; how < 4; how++) {
            grid.put(0, how);
            grid.layout();
            Check.sizes(grid, 0, 0f, 0f);
            Check.sizes(grid, 1, 0f, 0f);
            Check.isFloat("at", grid.at(0, 0), 0f);
            Check.isFloat("at", grid.at(0, 1), 0f);
            Check.isFloat("extent", grid.extent(0, 0), 0f);
            Check.isFloat("free", grid.free(0), 0f);
        }
        // without any track the space alone is to be seen
        TrackGrid empty = new TrackGrid();
        Check.is("space", empty.room(1, -0f, -0f), true);
        empty.layout();
        Check.isFloat("free", empty.free(1), 0f);
    }

    private static void roomOnNoAxis() {
        TrackGrid grid = new TrackGrid();
        Check.is("room of columns", grid.room(0, 3f, 0f), true);
        Check.is("room of rows", grid.room(1, 4f, 0f), true);
        for (int axis : Grids.noAxes()) {
            Check.is("room of axis " + axis, grid.room(axis, 7f, 1f), false);
        }
        grid.layout();
        Check.isFloat("free", grid.free(0), 3f);
        Check.isFloat("free", grid.free(1), 4f);
    }

    private static void roomMeasures() {
        float[] good = {0f, Float.MIN_VALUE, 1f, Math.nextDown(4096f), 4096f};
        for (float x : good) {
            TrackGrid grid = new TrackGrid();
            Check.template(grid, 0, "0 0", 2);
            Check.is("space " + x, grid.room(0, x, 0f), true);
            grid.layout();
            Check.isFloat("free", grid.free(0), x);
            Check.is("gap " + x, grid.room(0, 0f, x), true);
            grid.layout();
            Check.isFloat("at", grid.at(0, 1), x);
            Check.is("both " + x, grid.room(0, x, x), true);
            grid.layout();
            Check.isFloat("free", grid.free(0), 0f);
        }
        for (float x : Grids.noMeasures()) {
            for (int axis = 0; axis < 2; axis++) {
                TrackGrid grid = new TrackGrid();
                Check.template(grid, axis, "0 0", 2);
                Check.is("room", grid.room(axis, 10f, 3f), true);
                Check.is("space " + x, grid.room(axis, x, 1f), false);
                Check.is("gap " + x, grid.room(axis, 1f, x), false);
                Check.is("both " + x, grid.room(axis, x, x), false);
                grid.layout();
                Check.isFloat("what is refused changes no space", grid.free(axis), 7f);
                Check.isFloat("what is refused changes no gap", grid.at(axis, 1), 3f);
            }
        }
    }

    private static void hows() {
        float[] first = {0f, 4f, 8f, 0f};
        float[] size = {0f, 0f, 0f, 8f};
        for (int axis = 0; axis < 2; axis++) {
            for (int how = 0; how < 4; how++) {
                TrackGrid grid = new TrackGrid();
                Check.template(grid, axis, "auto", 1);
                grid.room(axis, 8f, 0f);
                Check.is("put " + how, grid.put(axis, how), true);
                Check.is("put -1", grid.put(axis, -1), false);
                Check.is("put 4", grid.put(axis, 4), false);
                for (int far : FAR) {
                    Check.is("put " + far, grid.put(axis, far), false);
                }
                grid.layout();
                Check.isFloat("at", grid.at(axis, 0), first[how]);
                Check.isFloat("size", grid.size(axis, 0), size[how]);
            }
        }
    }

    private static void putOnNoAxis() {
        TrackGrid grid = new TrackGrid();
        Check.template(grid, 1, "auto", 1);
        grid.room(0, 8f, 0f);
        grid.room(1, 8f, 0f);
        Check.is("put of columns", grid.put(0, 1), true);
        Check.is("put of rows", grid.put(1, 2), true);
        for (int axis : Grids.noAxes()) {
            for (int how = -1; how <= 4; how++) {
                Check.is("put of axis " + axis, grid.put(axis, how), false);
            }
        }
        grid.layout();
        Check.isFloat("at", grid.at(0, 0), 4f);
        Check.isFloat("at", grid.at(1, 0), 8f);
    }

    /** Three items in two tracks of the other axis: the third one shows all four flows. */
    private static void flows() {
        int[] column = {1, 2, 3, 1};
        int[] row = {3, 1, 1, 2};
        for (int which = 0; which < 4; which++) {
            boolean columns = which >= 2;
            boolean packed = which % 2 == 1;
            TrackGrid grid = new TrackGrid();
            grid.flow(!columns, !packed);
            grid.flow(columns, packed);
            grid.item(0, 1, 0, 1);
            grid.item(0, columns ? 1 : 2, 0, columns ? 2 : 1);
            grid.item(0, 1, 0, 1);
            Check.is("layout", grid.layout(), 3);
            Check.lines(grid, 2, column[which], row[which]);
        }
    }
}
