import java.util.NoSuchElementException;

/** Promises 12, 13, 15 and 17: size, at, extent and free, step by step of SIZES. */
public final class SizesTest {
    public static void main(String[] args) {
        lengths();
        singles();
        fitting();
        spreadLeast();
        spreadBySpan();
        spreadMost();
        growing();
        growingAgain();
        shares();
        sharesSetAside();
        stretching();
        positions();
        extents();
        noSuch();
        Check.finish();
    }

    private static TrackGrid columns(String text, int tracks, float space, float gap) {
        TrackGrid grid = new TrackGrid();
        Check.template(grid, 0, text, tracks);
        Check.is("room", grid.room(0, space, gap), true);
        return grid;
    }

    private static void item(TrackGrid grid, int column, int span, float least, float most) {
        int item = grid.item(column, span, 1, 1);
        Check.is("need", grid.need(item, 0, least, most), true);
    }

    /** (1): a limit below the base becomes the base. */
    private static void lengths() {
        TrackGrid grid = columns("5 minmax(7,3) minmax(2,6) auto max", 5, 0f, 0f);
        grid.layout();
        Check.sizes(grid, 0, 5f, 7f, 2f, 0f, 0f);
        Check.isFloat("free", grid.free(0), -14f);
        grid.room(0, 30f, 0f);
        grid.layout();
        Check.sizes(grid, 0, 5f, 7f, 6f, 0f, 0f);
        Check.isFloat("free", grid.free(0), 12f);
    }

    /** (2), with no space to see the bases, and with much to see the limits. */
    private static void singles() {
        String[] texts = {"min", "max", "auto", "6", "minmax(min,max)", "minmax(max,min)", "minmax(auto,4)",
            "minmax(1,max)", "minmax(1,auto)", "minmax(1,min)", "fit(6)", "minmax(auto,1)", "minmax(2,4)"};
        float[] bases = {3f, 8f, 3f, 6f, 3f, 8f, 3f, 1f, 1f, 1f, 3f, 3f, 2f};
        float[] limits = {3f, 8f, 8f, 6f, 8f, 8f, 4f, 8f, 8f, 3f, 6f, 3f, 4f};
        for (int i = 0; i < texts.length; i++) {
            TrackGrid grid = columns(texts[i], 1, 0f, 0f);
            item(grid, 1, 1, 3f, 8f);
            item(grid, 1, 1, 2f, 5f);
            grid.layout();
            Check.isFloat("base of " + texts[i], grid.size(0, 0), bases[i]);
            grid.room(0, 4000f, 0f);
            grid.layout();
            Check.isFloat("limit of " + texts[i], grid.size(0, 0), limits[i]);
        }
        TrackGrid share = columns("minmax(max,1fr) minmax(min,1fr) 1fr", 3, 0f, 0f);
        item(share, 1, 1, 3f, 8f);
        item(share, 2, 1, 3f, 8f);
        item(share, 3, 1, 4f, 8f);
        share.layout();
        Check.sizes(share, 0, 8f, 3f, 4f);
    }

    private static void fitting() {
        TrackGrid grid = columns("fit(6) fit(6) fit(6)", 3, 4000f, 0f);
        item(grid, 1, 1, 1f, 5f);
        item(grid, 2, 1, 1f, 9f);
        item(grid, 2, 1, 1f, 2f);
        item(grid, 3, 1, 7f, 9f);
        item(grid, 3, 1, 2f, 9f);
        grid.layout();
        Check.sizes(grid, 0, 5f, 6f, 7f);
    }

    /** (3): only tracks that are needy grow, by the least, whatever their LOW. */
    private static void spreadLeast() {
        TrackGrid grid = columns("10 min max auto", 4, 0f, 2f);
        item(grid, 1, 4, 46f, 100f);
        grid.layout();
        Check.sizes(grid, 0, 10f, 10f, 10f, 10f);
        TrackGrid share = columns("5 minmax(min,1fr) min", 3, 0f, 1f);
        item(share, 1, 3, 20f, 20f);
        share.layout();
        Check.sizes(share, 0, 5f, 0f, 13f);
        TrackGrid none = columns("5 1fr minmax(2,auto)", 3, 0f, 0f);
        item(none, 1, 3, 20f, 20f);
        none.layout();
        Check.sizes(none, 0, 5f, 0f, 2f);
        TrackGrid enough = columns("min min", 2, 0f, 3f);
        item(enough, 1, 1, 4f, 4f);
        item(enough, 2, 1, 5f, 5f);
        item(enough, 1, 2, 12f, 12f);
        enough.layout();
        Check.sizes(enough, 0, 4f, 5f);
        // the order of the subtractions and the division, in floats
        TrackGrid odd = columns("0.1 auto auto auto", 4, 0f, 0.3f);
        item(odd, 2, 1, 0.7f, 0.7f);
        item(odd, 1, 4, 100.1f, 100.1f);
        odd.layout();
        float gap = 0.3f;
        float rest = 100.1f - (1f / 10f) - 0.7f - 0f - 0f - gap - gap - gap;
        float part = rest / 3f;
        Check.sizes(odd, 0, 1f / 10f, 0.7f + part, part, part);
        TrackGrid little = columns("min min", 2, 0f, 0f);
        item(little, 1, 2, 0.5f, 0.5f);
        little.layout();
        Check.sizes(little, 0, 0.25f, 0.25f);
        // a limit below its base becomes the base: nothing grows beyond in (5)
        TrackGrid raised = columns("minmax(min,4) min", 2, 100f, 0f);
        item(raised, 1, 2, 20f, 20f);
        raised.layout();
        Check.sizes(raised, 0, 10f, 10f);
    }

    private static void spreadBySpan() {
        TrackGrid grid = columns("min min min min", 4, 0f, 0f);
        item(grid, 1, 4, 80f, 80f);
        item(grid, 1, 3, 30f, 30f);
        item(grid, 2, 2, 10f, 10f);
        item(grid, 1, 2, 15f, 15f);
        grid.layout();
        // span 2 in order: 0 5 5 0, then 5 10 5 0; span 3: 30 - 20 over three; span 4: the rest over four
        float third = 10f / 3f;
        float rest = 80f - (5f + third) - (10f + third) - (5f + third) - 0f;
        float part = rest / 4f;
        Check.sizes(grid, 0, 5f + third + part, 10f + third + part, 5f + third + part, part);
    }

    /** (4): the most over limits of HIGH MAX, AUTO or FIT, without regard to what fits. */
    private static void spreadMost() {
        TrackGrid grid = columns("5 max minmax(1,auto) fit(2)", 4, 4000f, 1f);
        item(grid, 1, 4, 0f, 48f);
        grid.layout();
        // rest is 48 - 5 - 0 - 1 - 0 - 3 over three limits
        Check.sizes(grid, 0, 5f, 13f, 14f, 13f);
        TrackGrid min = columns("min max", 2, 4000f, 0f);
        item(min, 1, 2, 10f, 40f);
        min.layout();
        // bases 5 and 5; the limit of min counts as its base, and stays so
        Check.sizes(min, 0, 5f, 35f);
        TrackGrid none = columns("min 5 minmax(1,7)", 3, 4000f, 0f);
        item(none, 1, 3, 0f, 400f);
        none.layout();
        Check.sizes(none, 0, 0f, 5f, 7f);
        TrackGrid order = columns("max max max", 3, 4000f, 0f);
        item(order, 1, 3, 0f, 90f);
        item(order, 1, 2, 0f, 30f);
        item(order, 1, 1, 0f, 20f);
        order.layout();
        // limits: single 20 and base 20; span 2: 5 for both; span 3: 90 - 30 over three
        Check.sizes(order, 0, 20f + 5f + 20f, 5f + 20f, 20f);
    }

    /** (5): the same part for each track, but at most up to its limit. */
    private static void growing() {
        TrackGrid grid = columns("minmax(0,10) minmax(0,50) minmax(5,6)", 3, 60f, 2f);
        grid.layout();
        // 51 free: 17 for each; 10, 17 and 1 are got; then 23 for the one left
        Check.sizes(grid, 0, 10f, 40f, 6f);
        Check.isFloat("free", grid.free(0), 0f);
        TrackGrid thirds = columns("minmax(0,90) minmax(0.1,90) minmax(0,90)", 3, 100f, 0.7f);
        thirds.layout();
        float free = 100f - 0f - (1f / 10f) - 0f - 0.7f - 0.7f;
        float part = free / 3f;
        float left = free - part - part - part;
        float next = left > 0f ? left / 3f : 0f;
        Check.isFloat("first", thirds.size(0, 0), part + next);
        Check.isFloat("second", thirds.size(0, 1), 1f / 10f + part + next);
        TrackGrid none = columns("minmax(20,30) minmax(20,30)", 2, 40f, 0f);
        none.layout();
        Check.sizes(none, 0, 20f, 20f);
        // a track that gets all it may has its limit as base, not a sum beside it
        TrackGrid exact = columns("minmax(0.009,0.115) minmax(0.01,0.06)", 2, 4000f, 0f);
        exact.layout();
        Check.sizes(exact, 0, 115f / 1000f, 6f / 100f);
        // of a little as of much
        TrackGrid little = columns("minmax(0,9) minmax(1,9)", 2, 1.5f, 0f);
        little.layout();
        Check.sizes(little, 0, 0.25f, 1.25f);
    }

    /** What rounding leaves is given again. */
    private static void growingAgain() {
        TrackGrid grid = columns("repeat(7,minmax(0,9999))", 7, 4096f, 0f);
        grid.layout();
        float base = 0f;
        float free = 4096f;
        for (int times = 0; times < 16 && free > 0f; times++) {
            float part = free / 7f;
            base = base + part;
            for (int t = 0; t < 7; t++) {
                free = free - part;
            }
        }
        Check.sizes(grid, 0, base, base, base, base, base, base, base);
    }

    private static void shares() {
        TrackGrid grid = columns("10 1fr 2.5fr", 3, 100f, 3f);
        grid.layout();
        float one = (100f - 3f - 3f - 10f) / 3.5f;
        Check.sizes(grid, 0, 10f, one, 2.5f * one);
        TrackGrid small = columns("0.25fr 0.5fr", 2, 100f, 0f);
        small.layout();
        Check.sizes(small, 0, 25f, 50f);
        Check.isFloat("free", small.free(0), 25f);
        TrackGrid zero = columns("0fr 1fr", 2, 100f, 0f);
        zero.layout();
        Check.sizes(zero, 0, 0f, 100f);
        TrackGrid full = columns("1fr 20 2fr", 3, 15f, 0f);
        full.layout();
        Check.sizes(full, 0, 0f, 20f, 0f);
        Check.isFloat("free", full.free(0), -5f);
        TrackGrid low = columns("minmax(30,1fr) 1fr", 2, 100f, 0f);
        low.layout();
        Check.sizes(low, 0, 50f, 50f);
        // gaps go before bases
        TrackGrid order = columns("0.1 0.3 1fr", 3, 1000.3f, 0.7f);
        order.layout();
        Check.isFloat("share", order.size(0, 2), 1000.3f - 0.7f - 0.7f - 1f / 10f - 3f / 10f);
    }

    private static void sharesSetAside() {
        TrackGrid grid = columns("minmax(60,1fr) 1fr 2fr", 3, 100f, 0f);
        grid.layout();
        float one = 40f / 3f;
        Check.sizes(grid, 0, 60f, one, 2f * one);
        // the second is only too great when the first was set aside
        TrackGrid chain = columns("minmax(70,1fr) minmax(20,1fr) 1fr", 3, 100f, 0f);
        chain.layout();
        Check.sizes(chain, 0, 70f, 20f, 10f);
        TrackGrid all = columns("minmax(70,1fr) minmax(80,1fr)", 2, 100f, 0f);
        all.layout();
        Check.sizes(all, 0, 70f, 80f);
        Check.isFloat("free", all.free(0), -50f);
        // what is not set aside is at least one share in all
        TrackGrid rest = columns("minmax(90,1fr) 0.25fr", 2, 100f, 0f);
        rest.layout();
        Check.sizes(rest, 0, 90f, 2.5f);
        TrackGrid none = columns("minmax(5,1fr) 1fr", 2, 3f, 0f);
        none.layout();
        Check.sizes(none, 0, 5f, 0f);
        // a base that is just its share is not above it: the other one would get 18.75f
        TrackGrid even = columns("minmax(25,0.25fr) 0.25fr", 2, 100f, 0f);
        even.layout();
        Check.sizes(even, 0, 25f, 25f);
        TrackGrid little = columns("1fr 1fr", 2, 0.5f, 0f);
        little.layout();
        Check.sizes(little, 0, 0.25f, 0.25f);
    }

    private static void stretching() {
        TrackGrid grid = columns("auto 5 minmax(1,auto) max", 4, 20f, 1f);
        grid.put(0, 3);
        grid.layout();
        // 20 - 6 - 3 are free
        Check.sizes(grid, 0, 5.5f, 5f, 6.5f, 0f);
        Check.isFloat("free", grid.free(0), 0f);
        Check.isFloat("at", grid.at(0, 0), 0f);
        TrackGrid behind = new TrackGrid();
        behind.room(0, 12f, 0f);
        behind.put(0, 3);
        behind.item(3, 1, 1, 1);
        behind.layout();
        Check.sizes(behind, 0, 4f, 4f, 4f);
        TrackGrid none = columns("auto 5", 2, 3f, 0f);
        none.put(0, 3);
        none.layout();
        Check.sizes(none, 0, 0f, 5f);
        Check.isFloat("free", none.free(0), -2f);
        TrackGrid little = columns("auto 5", 2, 5.5f, 0f);
        little.put(0, 3);
        little.layout();
        Check.sizes(little, 0, 0.5f, 5f);
        little.put(0, 2);
        little.layout();
        Check.isFloat("at the end", little.at(0, 0), 0.5f);
        // FREE is worked out anew, not said to be 0f
        TrackGrid anew = columns("auto auto auto 0.1", 4, 100f, 0f);
        anew.put(0, 3);
        anew.layout();
        float part = (100f - 0f - 0f - 0f - 1f / 10f) / 3f;
        Check.sizes(anew, 0, part, part, part, 1f / 10f);
        Check.isFloat("free", anew.free(0), 100f - part - part - part - 1f / 10f);
    }

    private static void positions() {
        TrackGrid grid = columns("0.1 0.7 2.3", 3, 11f, 0.3f);
        float first = 1f / 10f;
        float second = 7f / 10f;
        float third = 2f + 3f / 10f;
        float free = 11f - first - second - third - 0.3f - 0.3f;
        float[] begin = {0f, free / 2f, free, 0f};
        for (int how = 0; how < 4; how++) {
            grid.put(0, how);
            grid.layout();
            Check.isFloat("free", grid.free(0), free);
            Check.isFloat("at", grid.at(0, 0), begin[how]);
            Check.isFloat("at", grid.at(0, 1), begin[how] + first + 0.3f);
            Check.isFloat("at", grid.at(0, 2), begin[how] + first + 0.3f + second + 0.3f);
        }
        TrackGrid rows = new TrackGrid();
        Check.template(rows, 1, "3 4", 2);
        rows.room(1, 10f, 1f);
        rows.put(1, 2);
        rows.layout();
        Check.isFloat("at", rows.at(1, 1), 6f);
        Check.isFloat("free of no tracks", new TrackGrid().free(1), 0f);
        TrackGrid empty = new TrackGrid();
        empty.room(1, 10f, 1f);
        empty.layout();
        Check.isFloat("free of no tracks", empty.free(1), 10f);
    }

    private static void extents() {
        TrackGrid grid = columns("0.1 0.7 2.3", 3, 0f, 0.3f);
        item(grid, 1, 3, 0f, 0f);
        item(grid, 2, 2, 0f, 0f);
        item(grid, 3, 1, 0f, 0f);
        grid.layout();
        float third = 2f + 3f / 10f;
        Check.isFloat("extent", grid.extent(0, 0), 1f / 10f + 7f / 10f + third + 0.3f + 0.3f);
        Check.isFloat("extent", grid.extent(1, 0), 7f / 10f + third + 0.3f);
        Check.isFloat("extent", grid.extent(2, 0), third);
        Check.isFloat("extent", grid.extent(2, 1), 0f);
        grid.room(0, 0f, 100f);
        Check.isFloat("of the latest layout", grid.extent(1, 0), 7f / 10f + third + 0.3f);
    }

    private static void noSuch() {
        TrackGrid grid = columns("1 2", 2, 5f, 0f);
        grid.item(0, 1, 1, 1);
        Check.throwing("no layout", NoSuchElementException.class, () -> grid.size(0, 0));
        Check.throwing("no layout", NoSuchElementException.class, () -> grid.at(0, 0));
        Check.throwing("no layout", NoSuchElementException.class, () -> grid.extent(0, 0));
        Check.isFloat("no layout", grid.free(0), 0f);
        grid.layout();
        int[][] bad = {{0, 2}, {0, -1}, {1, 1}, {2, 0}, {-1, 0}, {0, 12}, {0, Integer.MAX_VALUE}, {0, Integer.MIN_VALUE}};
        for (int[] b : bad) {
            Check.throwing("size", NoSuchElementException.class, () -> grid.size(b[0], b[1]));
            Check.throwing("at", NoSuchElementException.class, () -> grid.at(b[0], b[1]));
        }
        Check.throwing("no item", NoSuchElementException.class, () -> grid.extent(1, 0));
        Check.throwing("no item", NoSuchElementException.class, () -> grid.extent(-1, 0));
        Check.throwing("no axis", NoSuchElementException.class, () -> grid.extent(0, 2));
        Check.throwing("no axis", NoSuchElementException.class, () -> grid.extent(0, -1));
        grid.item(0, 1, 0, 1);
        Check.throwing("not in the layout", NoSuchElementException.class, () -> grid.extent(1, 0));
        Check.isFloat("free", grid.free(0), 2f);
        Check.isFloat("no axis", grid.free(2), 0f);
        Check.isFloat("no axis", grid.free(-1), 0f);
        TrackGrid full = new TrackGrid();
        full.item(1, 1, 1, 1);
        full.item(0, 1, 1, 1);
        full.layout();
        Check.throwing("not placed", NoSuchElementException.class, () -> full.extent(1, 0));
        Check.throwing("not placed", NoSuchElementException.class, () -> full.extent(1, 1));
    }
}
