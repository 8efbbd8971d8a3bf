/** Grids and arguments that several tests begin with. */
final class Grids {
    /** Ints beyond 0 and 1, near them and far away: none is an axis. */
    private static final int[] NO_AXES = {-1, 2, 3, 255, 256, 65536, Integer.MIN_VALUE, Integer.MIN_VALUE + 1, Integer.MAX_VALUE};

    /** Floats beyond 0f .. 4096f, near it and far away, and what is no number. */
    private static final float[] NO_MEASURES = {-Float.MIN_VALUE, -1f, -4096f, -Float.MAX_VALUE, Float.NEGATIVE_INFINITY,
        Math.nextUp(4096f), 4097f, Float.MAX_VALUE, Float.POSITIVE_INFINITY, Float.NaN,
        Float.intBitsToFloat(0x7f800001), Float.intBitsToFloat(0xffc00000), Float.intBitsToFloat(0xffffffff)};

    private Grids() {
    }

    static int[] noAxes() {
        return NO_AXES.clone();
    }

    static float[] noMeasures() {
        return NO_MEASURES.clone();
    }

    static TrackGrid columns(String text, int tracks, float space, float gap) {
        TrackGrid grid = new TrackGrid();
        Check.template(grid, 0, text, tracks);
        Check.is("room", grid.room(0, space, gap), true);
        return grid;
    }

    /** An item told to stand in the first row, with a need on the columns. */
    static int item(TrackGrid grid, int column, int span, float least, float most) {
        int item = grid.item(column, span, 1, 1);
        Check.is("need", grid.need(item, 0, least, most), true);
        return item;
    }

    /** So many tracks of length 1. */
    static String ones(int tracks) {
        return "1 ".repeat(tracks).trim();
    }
}
