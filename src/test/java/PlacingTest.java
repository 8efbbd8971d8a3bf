/** Promises 7, 10, 11 and 14: flow, layout, tracks and line. */
public final class PlacingTest {
    public static void main(String[] args) {
        told();
        counts();
        mainStarts();
        cursor();
        cursorWithOtherStart();
        notPlaced();
        lastLine();
        cursorStaysBehindNotPlaced();
        packed();
        alongColumns();
        reach();
        latestLayout();
        noSuch();
        Check.finish();
    }

    private static TrackGrid columns(String text, int tracks) {
        TrackGrid grid = new TrackGrid();
        Check.template(grid, 0, text, tracks);
        return grid;
    }

    private static void told() {
        TrackGrid grid = new TrackGrid();
        grid.item(2, 2, 3, 1);
        grid.item(2, 1, 3, 2);
        grid.item(12, 1, 9, 4);
        Check.is("layout", grid.layout(), 3);
        Check.lines(grid, 0, 2, 3);
        Check.lines(grid, 1, 2, 3);
        Check.lines(grid, 2, 12, 9);
        Check.is("tracks", grid.tracks(0), 12);
        Check.is("tracks", grid.tracks(1), 12);
        Check.is("layout again", grid.layout(), 3);
    }

    /** COUNT: 1, the template, starts with their spans, and spans of the others. */
    private static void counts() {
        TrackGrid grid = new TrackGrid();
        grid.layout();
        Check.is("1", grid.tracks(0), 1);
        Check.is("main axis", grid.tracks(1), 0);
        grid.item(0, 3, 0, 2);
        grid.layout();
        Check.is("a span", grid.tracks(0), 3);
        Check.is("main axis", grid.tracks(1), 2);
        grid.item(4, 2, 0, 1);
        grid.layout();
        Check.is("a start and its span", grid.tracks(0), 5);
        Check.template(grid, 0, "repeat(7,1)", 7);
        grid.layout();
        Check.is("the template", grid.tracks(0), 7);
        Check.template(grid, 1, "1 1 1 1", 4);
        grid.layout();
        Check.is("main axis", grid.tracks(1), 4);
    }

    private static void mainStarts() {
        TrackGrid grid = columns("1 1 1 1 1 1", 6);
        grid.item(2, 1, 1, 1);
        grid.item(0, 2, 1, 1);
        grid.item(0, 1, 1, 1);
        grid.item(0, 1, 2, 1);
        grid.item(0, 2, 1, 1);
        Check.is("the line behind", grid.layout(), 4);
        Check.lines(grid, 0, 2, 1);
        Check.lines(grid, 1, 3, 1);
        Check.lines(grid, 2, 5, 1);
        Check.lines(grid, 3, 1, 2);
        Check.lines(grid, 4, 0, 0);
        grid.item(0, 1, 1, 2);
        Check.is("behind the one that was placed", grid.layout(), 5);
        Check.lines(grid, 5, 6, 1);
        grid.flow(false, true);
        Check.is("packed", grid.layout(), 5);
        Check.lines(grid, 1, 3, 1);
        Check.lines(grid, 2, 1, 1);
        Check.lines(grid, 4, 5, 1);
        Check.lines(grid, 5, 0, 0);

        // another main start has a line behind of its own, even where spans meet
        TrackGrid tall = columns("1 1 1 1", 4);
        tall.item(0, 1, 1, 3);
        tall.item(0, 1, 2, 1);
        tall.item(0, 1, 1, 1);
        tall.item(0, 1, 3, 1);
        Check.is("layout", tall.layout(), 4);
        Check.lines(tall, 0, 1, 1);
        Check.lines(tall, 1, 2, 2);
        Check.lines(tall, 2, 2, 1);
        Check.lines(tall, 3, 2, 3);
    }

    private static void cursor() {
        TrackGrid grid = columns("1 1 1", 3);
        grid.item(0, 2, 0, 1);
        grid.item(0, 2, 0, 2);
        grid.item(0, 1, 0, 1);
        grid.item(0, 3, 0, 1);
        grid.item(0, 1, 0, 1);
        grid.item(2, 1, 1, 4);
        grid.item(2, 1, 5, 1);
        Check.is("layout", grid.layout(), 7);
        Check.lines(grid, 5, 2, 1);
        Check.lines(grid, 6, 2, 5);
        Check.lines(grid, 0, 1, 6);
        Check.lines(grid, 1, 1, 7);
        Check.lines(grid, 2, 3, 7);
        Check.lines(grid, 3, 1, 9);
        Check.lines(grid, 4, 1, 10);
        Check.is("rows", grid.tracks(1), 10);
    }

    private static void cursorWithOtherStart() {
        TrackGrid grid = columns("1 1 1", 3);
        grid.item(2, 1, 0, 1);
        grid.item(2, 1, 0, 1);
        grid.item(1, 1, 0, 1);
        grid.item(3, 1, 0, 1);
        grid.item(0, 1, 0, 1);
        grid.item(1, 2, 0, 2);
        grid.item(0, 1, 0, 1);
        Check.is("layout", grid.layout(), 7);
        Check.lines(grid, 0, 2, 1);
        Check.lines(grid, 1, 2, 2);
        Check.lines(grid, 2, 1, 3);
        Check.lines(grid, 3, 3, 3);
        Check.lines(grid, 4, 1, 4);
        Check.lines(grid, 5, 1, 5);
        Check.lines(grid, 6, 3, 5);
        grid.flow(false, true);
        Check.is("packed", grid.layout(), 7);
        Check.lines(grid, 0, 2, 1);
        Check.lines(grid, 1, 2, 2);
        Check.lines(grid, 2, 1, 1);
        Check.lines(grid, 3, 3, 1);
        Check.lines(grid, 4, 1, 2);
        Check.lines(grid, 5, 1, 3);
        Check.lines(grid, 6, 3, 2);
    }

    private static void notPlaced() {
        TrackGrid grid = new TrackGrid();
        grid.item(1, 1, 1, 4);
        grid.item(1, 1, 5, 4);
        grid.item(0, 1, 0, 4);
        grid.item(0, 1, 0, 1);
        grid.item(1, 1, 0, 1);
        Check.is("the last row that may be", grid.layout(), 3);
        Check.lines(grid, 2, 1, 9);
        Check.lines(grid, 3, 0, 0);
        Check.lines(grid, 4, 0, 0);
        grid.item(0, 2, 0, 1);
        Check.is("one more column", grid.layout(), 6);
        Check.is("columns", grid.tracks(0), 2);
        Check.lines(grid, 2, 2, 1);
        Check.lines(grid, 3, 2, 5);
        Check.lines(grid, 4, 1, 9);
        Check.lines(grid, 5, 1, 10);

        TrackGrid crowded = new TrackGrid();
        crowded.item(1, 1, 1, 1);
        crowded.item(0, 1, 1, 1);
        Check.is("no place on its main line", crowded.layout(), 1);
        Check.lines(crowded, 1, 0, 0);

        // one that is not placed counts for COUNT, but reaches nothing
        TrackGrid far = new TrackGrid();
        far.item(1, 4, 1, 4);
        far.item(1, 4, 5, 4);
        far.item(1, 4, 9, 4);
        far.item(3, 4, 0, 1);
        Check.is("layout", far.layout(), 3);
        Check.is("columns", far.tracks(0), 6);
        Check.is("rows", far.tracks(1), 12);
    }

    /** The last main line may be used, and nothing may end behind it. */
    private static void lastLine() {
        for (int how = 0; how < 4; how++) {
            TrackGrid grid = columns("1 1", 2);
            grid.flow(false, how % 2 == 1);
            for (int row = 1; row < 12; row += 4) {
                grid.item(1, 1, row, row == 9 ? 3 : 4);
                grid.item(2, 1, row, row == 9 ? 3 : 4);
            }
            int column = how < 2 ? 0 : 2;
            grid.item(column, 1, 0, 2);
            grid.item(column, 1, 0, 1);
            grid.item(0, 1, 12, 1);
            Check.is("layout", grid.layout(), 8);
            Check.lines(grid, 6, 0, 0);
            Check.lines(grid, 7, 2, 12);
            Check.lines(grid, 8, 1, 12);
        }
    }

    private static void cursorStaysBehindNotPlaced() {
        TrackGrid grid = columns("1 1 1", 3);
        grid.item(1, 1, 3, 4);
        grid.item(1, 1, 7, 4);
        grid.item(1, 1, 11, 2);
        grid.item(2, 1, 0, 1);
        grid.item(1, 1, 0, 3);
        grid.item(0, 1, 0, 1);
        Check.is("layout", grid.layout(), 5);
        Check.lines(grid, 3, 2, 1);
        Check.lines(grid, 4, 0, 0);
        Check.lines(grid, 5, 3, 1);
        // the same with one that goes anywhere: three columns are free nowhere behind the cursor
        TrackGrid wide = columns("1 1 1", 3);
        wide.item(1, 1, 2, 4);
        wide.item(1, 1, 6, 4);
        wide.item(1, 1, 10, 3);
        wide.item(2, 1, 0, 1);
        wide.item(0, 3, 0, 1);
        wide.item(0, 1, 0, 1);
        Check.is("layout", wide.layout(), 5);
        Check.lines(wide, 4, 0, 0);
        Check.lines(wide, 5, 3, 1);

        // the main line of the cursor can't grow beyond the last
        TrackGrid last = columns("1 1", 2);
        last.item(2, 1, 1, 4);
        last.item(2, 1, 5, 4);
        last.item(2, 1, 9, 3);
        last.item(2, 1, 0, 1);
        last.item(1, 1, 0, 1);
        last.item(0, 1, 0, 1);
        Check.is("layout", last.layout(), 4);
        Check.lines(last, 3, 2, 12);
        Check.lines(last, 4, 0, 0);
        Check.lines(last, 5, 0, 0);
    }

    private static void packed() {
        TrackGrid grid = columns("1 1 1", 3);
        grid.flow(false, true);
        grid.item(0, 2, 0, 1);
        grid.item(0, 2, 0, 1);
        grid.item(0, 1, 0, 1);
        grid.item(0, 1, 0, 1);
        Check.is("layout", grid.layout(), 4);
        Check.lines(grid, 0, 1, 1);
        Check.lines(grid, 1, 1, 2);
        Check.lines(grid, 2, 3, 1);
        Check.lines(grid, 3, 3, 2);
        grid.flow(false, false);
        Check.is("layout", grid.layout(), 4);
        Check.lines(grid, 2, 3, 2);
        Check.lines(grid, 3, 1, 3);
    }

    private static void alongColumns() {
        TrackGrid grid = new TrackGrid();
        Check.template(grid, 1, "1 1 1", 3);
        grid.flow(true, false);
        grid.item(0, 1, 0, 2);
        grid.item(0, 1, 0, 2);
        grid.item(0, 1, 0, 1);
        grid.item(0, 1, 2, 1);
        grid.item(2, 1, 0, 1);
        Check.is("layout", grid.layout(), 5);
        Check.lines(grid, 4, 2, 1);
        Check.lines(grid, 0, 1, 1);
        Check.lines(grid, 1, 2, 2);
        Check.lines(grid, 2, 3, 1);
        Check.lines(grid, 3, 3, 2);
        Check.is("columns", grid.tracks(0), 3);
        Check.is("rows", grid.tracks(1), 3);
        grid.flow(true, true);
        Check.is("layout", grid.layout(), 5);
        Check.lines(grid, 2, 1, 3);
        Check.lines(grid, 3, 3, 2);
        TrackGrid empty = new TrackGrid();
        empty.flow(true, true);
        Check.is("layout", empty.layout(), 0);
        Check.is("columns", empty.tracks(0), 0);
        Check.is("rows", empty.tracks(1), 1);
        empty.flow(false, true);
        Check.is("of the latest layout", empty.tracks(0), 0);
        empty.layout();
        Check.is("columns", empty.tracks(0), 1);
        Check.is("rows", empty.tracks(1), 0);
    }

    /** Tracks behind the template are AUTO in both directions. */
    private static void reach() {
        TrackGrid grid = new TrackGrid();
        Check.template(grid, 1, "5", 1);
        Check.template(grid, 0, "6", 1);
        grid.item(2, 1, 3, 1);
        grid.need(0, 0, 7f, 9f);
        grid.need(0, 1, 8f, 9f);
        grid.layout();
        Check.sizes(grid, 0, 6f, 7f);
        Check.sizes(grid, 1, 5f, 0f, 8f);
    }

    private static void latestLayout() {
        TrackGrid grid = columns("3 4", 2);
        grid.item(0, 1, 0, 1);
        grid.room(0, 10f, 1f);
        grid.layout();
        Check.template(grid, 0, "1 1 1", 3);
        grid.item(3, 2, 3, 2);
        grid.need(0, 1, 5f, 5f);
        grid.room(0, 100f, 9f);
        grid.put(0, 2);
        grid.flow(true, true);
        Check.sizes(grid, 0, 3f, 4f);
        Check.sizes(grid, 1, 0f);
        Check.isFloat("at", grid.at(0, 1), 4f);
        Check.isFloat("free", grid.free(0), 2f);
        Check.lines(grid, 0, 1, 1);
        Check.lines(grid, 1, 0, 0);
        Check.is("hit", grid.hit(1f, 1f), -1);
        Check.is("layout", grid.layout(), 2);
        Check.sizes(grid, 0, 1f, 1f, 1f, 0f);
        Check.lines(grid, 1, 3, 3);
        // fewer tracks than before
        Check.template(grid, 0, "1", 1);
        TrackGrid small = columns("3 4", 2);
        small.layout();
        Check.template(small, 0, "", 0);
        small.layout();
        Check.sizes(small, 0, 0f);
    }

    private static void noSuch() {
        TrackGrid grid = new TrackGrid();
        grid.item(1, 1, 1, 1);
        Check.lines(grid, 0, 0, 0);
        grid.layout();
        Check.lines(grid, 0, 1, 1);
        Check.lines(grid, 1, 0, 0);
        Check.lines(grid, -1, 0, 0);
        Check.lines(grid, 10, 0, 0);
        Check.is("no axis", grid.line(0, 2), 0);
        Check.is("no axis", grid.line(0, -1), 0);
        Check.is("no axis", grid.tracks(2), -1);
        Check.is("no axis", grid.tracks(-1), -1);
    }
}
