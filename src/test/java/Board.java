/** A grid told of by main and other axis, so that a test of placing can be run with either flow. */
final class Board {
    final TrackGrid grid = new TrackGrid();
    final int main;
    final int other;
    private final boolean columns;

    Board(boolean columns, boolean packed) {
        this.columns = columns;
        main = columns ? 0 : 1;
        other = 1 - main;
        grid.flow(columns, packed);
    }

    void flow(boolean packed) {
        grid.flow(columns, packed);
    }

    void otherTracks(int tracks) {
        Check.template(grid, other, Grids.ones(tracks), tracks);
    }

    void mainTracks(int tracks) {
        Check.template(grid, main, Grids.ones(tracks), tracks);
    }

    int item(int mainStart, int mainSpan, int otherStart, int otherSpan) {
        return columns ? grid.item(mainStart, mainSpan, otherStart, otherSpan) : grid.item(otherStart, otherSpan, mainStart, mainSpan);
    }

    /** Items that take so many of the first main lines, at one line of the other axis. */
    void fill(int otherLine, int mainLines) {
        for (int line = 1; line <= mainLines; line += 4) {
            item(line, Math.min(4, mainLines - line + 1), otherLine, 1);
        }
    }

    void laysOut(int placed) {
        Check.is("layout " + (columns ? "along columns" : "along rows"), grid.layout(), placed);
    }

    void stands(int item, int mainLine, int otherLine) {
        Check.is("main line of item " + item, grid.line(item, main), mainLine);
        Check.is("other line of item " + item, grid.line(item, other), otherLine);
    }

    void tracks(int mainCount, int otherCount) {
        Check.is("tracks of the main axis", grid.tracks(main), mainCount);
        Check.is("tracks of the other axis", grid.tracks(other), otherCount);
    }
}
