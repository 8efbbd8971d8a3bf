/** Promise 16: hit. */
public final class HitTest {
    public static void main(String[] args) {
        edges();
        leastNumber();
        onlyPlaced();
        floats();
        Check.finish();
    }

    private static void edges() {
        TrackGrid grid = new TrackGrid();
        Check.template(grid, 0, "10 20 30", 3);
        Check.template(grid, 1, "5 6", 2);
        grid.room(0, 100f, 2f);
        grid.put(0, 2);
        grid.item(2, 2, 2, 1);
        Check.is("no layout", grid.hit(60f, 7f), -1);
        grid.layout();
        // columns begin at 36: the item covers 48 to 100, and rows 5 to 11
        Check.is("begin", grid.hit(48f, 5f), 0);
        Check.is("left", grid.hit(Math.nextDown(48f), 5f), -1);
        Check.is("above", grid.hit(48f, Math.nextDown(5f)), -1);
        Check.is("end", grid.hit(Math.nextDown(100f), Math.nextDown(11f)), 0);
        Check.is("right", grid.hit(100f, 7f), -1);
        Check.is("below", grid.hit(60f, 11f), -1);
        Check.is("the gap within", grid.hit(69f, 7f), 0);
        Check.is("no number", grid.hit(Float.NaN, 7f), -1);
        Check.is("no number", grid.hit(60f, Float.NaN), -1);
        Check.is("endless", grid.hit(Float.POSITIVE_INFINITY, 7f), -1);
        Check.is("endless", grid.hit(60f, Float.NEGATIVE_INFINITY), -1);
    }

    private static void leastNumber() {
        TrackGrid grid = new TrackGrid();
        Check.template(grid, 0, "10 10", 2);
        Check.template(grid, 1, "10", 1);
        grid.item(2, 1, 1, 1);
        grid.item(1, 2, 1, 1);
        grid.item(1, 1, 1, 1);
        grid.layout();
        Check.is("hit", grid.hit(15f, 0f), 0);
        Check.is("hit", grid.hit(5f, 0f), 1);
        Check.is("-0f", grid.hit(-0f, -0f), 1);
    }

    private static void onlyPlaced() {
        TrackGrid grid = new TrackGrid();
        Check.template(grid, 0, "10", 1);
        Check.template(grid, 1, "10 10", 2);
        grid.item(0, 1, 2, 1);
        grid.item(1, 1, 2, 1);
        Check.is("layout", grid.layout(), 1);
        Check.is("hit", grid.hit(5f, 15f), 1);
        Check.is("hit", grid.hit(5f, 5f), -1);
        grid.item(1, 1, 1, 1);
        Check.is("not in the latest layout", grid.hit(5f, 5f), -1);
        Check.is("layout", grid.layout(), 2);
        Check.is("hit", grid.hit(5f, 5f), 2);
    }

    /** The end is the float of position + size, which need not be where the next track begins. */
    private static void floats() {
        TrackGrid grid = new TrackGrid();
        Check.template(grid, 0, "1000.1 0.007 0.009", 3);
        Check.template(grid, 1, "1", 1);
        grid.item(2, 2, 1, 1);
        grid.layout();
        float from = 1000f + 1f / 10f;
        float end = from + (7f / 1000f + 9f / 1000f);
        Check.is("begin", grid.hit(from, 0f), 0);
        Check.is("end", grid.hit(end, 0f), -1);
        Check.is("before the end", grid.hit(Math.nextDown(end), 0f), 0);
    }
}
