/** Promises 5, 6, 8 and 9: what item, need, room and put take and refuse. */
public final class TellingTest {
    private static final float BELOW = -Float.MIN_VALUE;
    private static final float ABOVE = Math.nextUp(4096f);

    public static void main(String[] args) {
        items();
        tooManyItems();
        needs();
        rooms();
        puts();
        Check.finish();
    }

    private static void items() {
        int[] starts = {Integer.MIN_VALUE, -1, 0, 1, 9, 10, 11, 12, 13, 14, Integer.MAX_VALUE};
        int[] spans = {Integer.MIN_VALUE, -1, 0, 1, 2, 3, 4, 5, Integer.MAX_VALUE};
        for (int start : starts) {
            for (int span : spans) {
                boolean good = start >= 0 && start <= 12 && span >= 1 && span <= 4 && start <= 13 - span;
                String what = start + " and " + span;
                TrackGrid byColumn = new TrackGrid();
                TrackGrid byRow = new TrackGrid();
                if (good) {
                    Check.is("item at columns " + what, byColumn.item(start, span, 0, 1), 0);
                    Check.is("item at rows " + what, byRow.item(0, 1, start, span), 0);
                } else {
                    Check.throwing("item at columns " + what, IllegalArgumentException.class,
                            () -> byColumn.item(start, span, 0, 1));
                    Check.throwing("item at rows " + what, IllegalArgumentException.class,
                            () -> byRow.item(0, 1, start, span));
                    Check.is("a refused one is no item", byColumn.item(0, 1, 0, 1), 0);
                    Check.is("a refused one is no item", byRow.item(0, 1, 0, 1), 0);
                }
            }
        }
    }

    private static void tooManyItems() {
        TrackGrid grid = new TrackGrid();
        for (int i = 0; i < 10; i++) {
            Check.is("item", grid.item(0, 1, 0, 1), i);
        }
        Check.throwing("the eleventh", IllegalStateException.class, () -> grid.item(0, 1, 0, 1));
        Check.throwing("a bad one is asked first", IllegalArgumentException.class, () -> grid.item(0, 5, 0, 1));
        Check.is("layout", grid.layout(), 10);
    }

    private static void needs() {
        TrackGrid grid = new TrackGrid();
        grid.item(1, 1, 1, 1);
        Check.is("need", grid.need(0, 0, 3f, 4f), true);
        Check.is("no item", grid.need(1, 0, 3f, 4f), false);
        Check.is("no item", grid.need(-1, 0, 3f, 4f), false);
        Check.is("no item", grid.need(10, 0, 3f, 4f), false);
        Check.is("no axis", grid.need(0, 2, 3f, 4f), false);
        Check.is("no axis", grid.need(0, -1, 3f, 4f), false);
        float[] bad = {BELOW, ABOVE, Float.NaN, Float.POSITIVE_INFINITY, Float.NEGATIVE_INFINITY};
        for (float x : bad) {
            Check.is("least " + x, grid.need(0, 0, x, 4f), false);
            Check.is("least " + x, grid.need(0, 0, x, x), false);
            Check.is("most " + x, grid.need(0, 0, 3f, x), false);
        }
        Check.is("least above most", grid.need(0, 0, Math.nextUp(4f), 4f), false);
        grid.layout();
        Check.isFloat("what is refused changes nothing", grid.size(0, 0), 3f);
        Check.isFloat("the other axis", grid.size(1, 0), 0f);
        Check.is("edges", grid.need(0, 0, 4096f, 4096f), true);
        Check.is("edges", grid.need(0, 1, 0f, 4096f), true);
        grid.layout();
        Check.isFloat("size", grid.size(0, 0), 4096f);
        Check.isFloat("size", grid.size(1, 0), 0f);
        Check.is("-0f", grid.need(0, 0, -0f, -0f), true);
        Check.is("-0f", grid.need(0, 1, 0f, -0f), true);
        grid.layout();
        Check.isFloat("-0f is 0f", grid.size(0, 0), 0f);
        Check.isFloat("extent", grid.extent(0, 0), 0f);
    }

    private static void rooms() {
        TrackGrid grid = new TrackGrid();
        Check.template(grid, 0, "1 1", 2);
        Check.is("room", grid.room(0, 10f, 2f), true);
        Check.is("no axis", grid.room(2, 1f, 1f), false);
        Check.is("no axis", grid.room(-1, 1f, 1f), false);
        float[] bad = {BELOW, -1f, ABOVE, Float.NaN, Float.POSITIVE_INFINITY, Float.NEGATIVE_INFINITY};
        for (float x : bad) {
            Check.is("space " + x, grid.room(0, x, 1f), false);
            Check.is("gap " + x, grid.room(0, 1f, x), false);
        }
        grid.layout();
        Check.isFloat("free", grid.free(0), 6f);
        Check.isFloat("at", grid.at(0, 1), 3f);
        Check.isFloat("free of rows", grid.free(1), 0f);
        Check.is("edges", grid.room(0, 4096f, 4096f), true);
        Check.is("edges", grid.room(1, 4096f, 0f), true);
        grid.layout();
        Check.isFloat("free", grid.free(0), -2f);
        Check.isFloat("free of rows", grid.free(1), 4096f);
        Check.is("-0f", grid.room(0, -0f, -0f), true);
        Check.is("-0f", grid.room(1, -0f, -0f), true);
        grid.layout();
        Check.isFloat("free", grid.free(0), -2f);
        Check.isFloat("-0f is 0f", grid.free(1), 0f);
    }

    private static void puts() {
        TrackGrid grid = new TrackGrid();
        Check.template(grid, 0, "2 auto", 2);
        grid.room(0, 11f, 1f);
        float[] first = {0f, 4f, 8f, 0f};
        float[] second = {0f, 0f, 0f, 8f};
        float[] free = {8f, 8f, 8f, 0f};
        for (int how = 0; how < 4; how++) {
            Check.is("put", grid.put(0, how), true);
            Check.is("how", grid.put(0, -1), false);
            Check.is("how", grid.put(0, 4), false);
            Check.is("axis", grid.put(2, 0), false);
            Check.is("axis", grid.put(-1, 0), false);
            Check.is("the other axis", grid.put(1, (how + 1) % 4), true);
            grid.layout();
            Check.sizes(grid, 0, 2f, second[how]);
            Check.isFloat("at", grid.at(0, 0), first[how]);
            Check.isFloat("at", grid.at(0, 1), first[how] + 3f);
            Check.isFloat("free", grid.free(0), free[how]);
        }
        // without anything left every way begins at 0f
        for (int how = 0; how < 4; how++) {
            grid.room(0, 2f, 1f);
            grid.put(0, how);
            grid.layout();
            Check.isFloat("at", grid.at(0, 0), 0f);
            Check.isFloat("free", grid.free(0), -1f);
        }
        // no track to stretch
        TrackGrid stiff = new TrackGrid();
        Check.template(stiff, 0, "2 max fit(9)", 3);
        stiff.room(0, 11f, 0f);
        stiff.put(0, 3);
        stiff.layout();
        Check.sizes(stiff, 0, 2f, 0f, 0f);
        Check.isFloat("free", stiff.free(0), 9f);
        Check.isFloat("at", stiff.at(0, 0), 0f);
    }
}
