/** SIZES: each sentence that names a bound, at it and just beyond it. */
public final class SizesBoundsTest {
    private static final float MUCH = 4096f;

    public static void main(String[] args) {
        Check.sentence("(1) Base is LOW's length, else 0f", SizesBoundsTest::firstBases);
        Check.sentence("(1) A limit below the base becomes the base", SizesBoundsTest::firstLimits);
        Check.sentence("(2) the base becomes at least its least, .. its most", SizesBoundsTest::singleBases);
        Check.sentence("(2) endless counting as 0f in this", SizesBoundsTest::singleLimits);
        Check.sentence("(2) FIT to n at least its most, but n when that is above n", SizesBoundsTest::fitLimits);
        Check.sentence("(2) a limit that is below its base becomes the base", SizesBoundsTest::limitBelowSingleBase);
        Check.sentence("(2) each placed item with span 1", SizesBoundsTest::onlyPlacedSingles);
        Check.sentence("(3) NEEDY ..; if there are some", SizesBoundsTest::needyTracks);
        Check.sentence("(3) by span, then in order", SizesBoundsTest::orderOfSpans);
        Check.sentence("(3) Then a limit below its base becomes the base", SizesBoundsTest::limitBelowSpreadBase);
        Check.sentence("SPREADING .. When it is above 0f (bases)", SizesBoundsTest::restOfLeast);
        Check.sentence("SPREADING .. When it is above 0f (limits)", SizesBoundsTest::restOfMost);
        Check.sentence("SPREADING .. less the gap for each but one", SizesBoundsTest::gapsOfSpread);
        Check.sentence("(4) if there are some of its tracks with HIGH MAX, AUTO or FIT", SizesBoundsTest::wideTracks);
        Check.sentence("(4) those of them with an endless limit get the base as their limit", SizesBoundsTest::endlessOwn);
        Check.sentence("(4) endless ones of others counting as their bases", SizesBoundsTest::endlessOthers);
        Check.sentence("(4) Then limits that are endless become their bases", SizesBoundsTest::endlessAtLast);
        Check.sentence("(5) less the gap for each track but one", SizesBoundsTest::gapsOfTracks);
        Check.sentence("(5) As long as it is above 0f", SizesBoundsTest::freeAboveZero);
        Check.sentence("(5) and a track's base is below its limit", SizesBoundsTest::baseBelowLimit);
        Check.sentence("(5) but at most limit - base", SizesBoundsTest::atMostTheLimit);
        Check.sentence("(5) of a track that gets that, the base becomes the limit", SizesBoundsTest::becomesTheLimit);
        Check.sentence("(5) how many there are such at this time", SizesBoundsTest::manyGoes);
        Check.sentence("(5) to (7) over at most 12 tracks", SizesBoundsTest::twelveAndFewer);
        Check.sentence("(5) But at most 16 times", SizesBoundsTest::endsWhereNothingIsGot);
        Check.sentence("(6) one share is LEFT / F, when LEFT is above 0f, else 0f", SizesBoundsTest::leftAboveZero);
        Check.sentence("(6) but 1f when that is below 1f", SizesBoundsTest::sumOfShares);
        Check.sentence("(6) whose base is above its share * one share", SizesBoundsTest::baseAboveShare);
        Check.sentence("(6) all such ones are set aside", SizesBoundsTest::allSetAside);
        Check.sentence("(6) the sum of the other shares (again at least 1f)", SizesBoundsTest::sumOfOtherShares);
        Check.sentence("(6) LEFT is less their bases .. one share anew", SizesBoundsTest::leftBelowZeroAtLast);
        Check.sentence("(6) Without any of these nothing is done", SizesBoundsTest::noShareTrack);
        Check.sentence("(7) When it is above 0f and the axis is STRETCHED", SizesBoundsTest::stretchedAboveZero);
        Check.sentence("(7) each track with HIGH AUTO", SizesBoundsTest::stretchedTracks);
        Check.finish();
    }

    private static float up(float x) {
        return Math.nextUp(x);
    }

    private static float down(float x) {
        return Math.nextDown(x);
    }

    /** Lays out one column with one item in it, and answers its size. */
    private static float sizeOf(String text, float space, float least, float most) {
        TrackGrid grid = Grids.columns(text, 1, space, 0f);
        Grids.item(grid, 1, 1, least, most);
        grid.layout();
        return grid.size(0, 0);
    }

    private static void laidOut(TrackGrid grid, float... sizes) {
        grid.layout();
        Check.sizes(grid, 0, sizes);
    }

    private static void firstBases() {
        laidOut(Grids.columns("0 0.001 9999.999", 3, 0f, 0f), 0f, 1f / 1000f, 9999f + 999f / 1000f);
        laidOut(Grids.columns("auto min max 1fr fit(9)", 5, 0f, 0f), 0f, 0f, 0f, 0f, 0f);
        laidOut(Grids.columns("minmax(3,auto) minmax(4,1fr)", 2, 0f, 0f), 3f, 4f);
        laidOut(Grids.columns("minmax(auto,3) minmax(max,4)", 2, 0f, 0f), 0f, 0f);
        // a share begins with 0f, and so leaves all the space for what may grow
        laidOut(Grids.columns("1fr minmax(0,9)", 2, 5f, 0f), 0f, 5f);
        laidOut(Grids.columns("1fr minmax(0,9)", 2, 12f, 0f), 3f, 9f);
    }

    private static void firstLimits() {
        laidOut(Grids.columns("minmax(4,3.999)", 1, MUCH, 0f), 4f);
        laidOut(Grids.columns("minmax(4,4)", 1, MUCH, 0f), 4f);
        laidOut(Grids.columns("minmax(4,4.001)", 1, MUCH, 0f), 4f + 1f / 1000f);
        laidOut(Grids.columns("minmax(4,0)", 1, MUCH, 0f), 4f);
        laidOut(Grids.columns("minmax(0,0)", 1, MUCH, 0f), 0f);
        // a share has its base as limit: nothing grows in (5), and a share of 0 gives nothing in (6)
        laidOut(Grids.columns("minmax(4,0fr)", 1, MUCH, 0f), 4f);
    }

    private static void singleBases() {
        float[] second = {down(5f), 5f, up(5f)};
        for (float x : second) {
            String[] lows = {"min", "auto", "minmax(min,1)", "minmax(auto,1fr)", "1fr", "fit(1)"};
            for (String low : lows) {
                TrackGrid grid = Grids.columns(low, 1, 0f, 0f);
                Grids.item(grid, 1, 1, 5f, 20f);
                Grids.item(grid, 1, 1, x, 30f);
                laidOut(grid, x > 5f ? x : 5f);
            }
            TrackGrid max = Grids.columns("max", 1, 0f, 0f);
            Grids.item(max, 1, 1, 0f, 5f);
            Grids.item(max, 1, 1, 1f, x);
            laidOut(max, x > 5f ? x : 5f);
            TrackGrid length = Grids.columns("5", 1, 0f, 0f);
            Grids.item(length, 1, 1, x, x);
            laidOut(length, 5f);
        }
    }

    /** The limit is seen with much space; a base of 5 lies below, at or above it. */
    private static void singleLimits() {
        float[] needs = {0f, down(5f), 5f, up(5f), MUCH};
        for (float x : needs) {
            float due = x > 5f ? x : 5f;
            Check.isFloat("HIGH MIN", sizeOf("minmax(5,min)", MUCH, x, MUCH), due);
            Check.isFloat("HIGH MAX", sizeOf("minmax(5,max)", MUCH, 0f, x), due);
            Check.isFloat("HIGH AUTO", sizeOf("minmax(5,auto)", MUCH, 0f, x), due);
        }
    }

    private static void fitLimits() {
        Check.isFloat("below n", sizeOf("fit(6)", MUCH, 0f, down(6f)), down(6f));
        Check.isFloat("n", sizeOf("fit(6)", MUCH, 0f, 6f), 6f);
        Check.isFloat("above n", sizeOf("fit(6)", MUCH, 0f, up(6f)), 6f);
        Check.isFloat("far above n", sizeOf("fit(6)", MUCH, 0f, MUCH), 6f);
        Check.isFloat("n is 0", sizeOf("fit(0)", MUCH, 0f, 9f), 0f);
        // the least is not held by n
        Check.isFloat("least below n", sizeOf("fit(6)", 0f, down(6f), 9f), down(6f));
        Check.isFloat("least n", sizeOf("fit(6)", MUCH, 6f, 9f), 6f);
        Check.isFloat("least above n", sizeOf("fit(6)", MUCH, up(6f), 9f), up(6f));
        // an item behind one that was above n
        TrackGrid grid = Grids.columns("fit(6)", 1, MUCH, 0f);
        Grids.item(grid, 1, 1, 8f, 9f);
        Grids.item(grid, 1, 1, 1f, 2f);
        laidOut(grid, 8f);
    }

    private static void limitBelowSingleBase() {
        Check.isFloat("base below limit", sizeOf("minmax(min,4)", MUCH, down(4f), 9f), 4f);
        Check.isFloat("base at limit", sizeOf("minmax(min,4)", MUCH, 4f, 9f), 4f);
        Check.isFloat("base above limit", sizeOf("minmax(min,4)", MUCH, up(4f), 9f), up(4f));
        Check.isFloat("LOW MAX, HIGH MIN", sizeOf("minmax(max,min)", MUCH, 3f, 8f), 8f);
    }

    private static void onlyPlacedSingles() {
        TrackGrid grid = Grids.columns("minmax(auto,max) min", 2, MUCH, 0f);
        int first = grid.item(1, 1, 1, 1);
        grid.item(2, 1, 1, 1);
        int none = grid.item(0, 1, 1, 1);
        grid.need(first, 0, 2f, 3f);
        grid.need(none, 0, 7f, 9f);
        Check.is("layout", grid.layout(), 2);
        Check.sizes(grid, 0, 3f, 0f);
        // with more spans nothing happens in (2): a span of 2 with no needy track changes nothing at all
        TrackGrid two = Grids.columns("4 1fr", 2, 0f, 0f);
        Grids.item(two, 1, 2, 50f, 60f);
        laidOut(two, 4f, 0f);
    }

    private static void needyTracks() {
        String[] others = {"4", "minmax(4,auto)", "minmax(4,max)", "minmax(4,1fr)"};
        for (String other : others) {
            TrackGrid none = Grids.columns(other + " " + other, 2, 0f, 0f);
            Grids.item(none, 1, 2, 20f, 20f);
            laidOut(none, 4f, 4f);
            TrackGrid one = Grids.columns(other + " min", 2, 0f, 0f);
            Grids.item(one, 1, 2, 20f, 20f);
            laidOut(one, 4f, 16f);
        }
        String[] needy = {"min", "max", "auto", "fit(1)", "minmax(auto,1)"};
        for (String text : needy) {
            TrackGrid two = Grids.columns(text + " " + text, 2, 0f, 0f);
            Grids.item(two, 1, 2, 20f, 20f);
            laidOut(two, 10f, 10f);
        }
        String[] shares = {"1fr", "minmax(min,1fr)", "minmax(max,1fr)"};
        for (String text : shares) {
            TrackGrid share = Grids.columns(text + " 3", 2, 0f, 0f);
            Grids.item(share, 1, 2, 20f, 20f);
            laidOut(share, 0f, 3f);
        }
    }

    private static void orderOfSpans() {
        TrackGrid grid = Grids.columns("min min min min", 4, 0f, 0f);
        Grids.item(grid, 1, 4, 32f, 32f);
        Grids.item(grid, 1, 3, 12f, 12f);
        Grids.item(grid, 1, 2, 8f, 8f);
        Grids.item(grid, 2, 2, 6f, 6f);
        // 4 4 0 0, then 4 5 1 0, then 2 more over three, then the rest over four
        float third = 2f / 3f;
        float rest = (32f - (4f + third) - (5f + third) - (1f + third) - 0f) / 4f;
        laidOut(grid, 4f + third + rest, 5f + third + rest, 1f + third + rest, rest);
        // of the same span the first one comes first
        TrackGrid other = Grids.columns("min min min", 3, 0f, 0f);
        Grids.item(other, 2, 2, 6f, 6f);
        Grids.item(other, 1, 2, 8f, 8f);
        laidOut(other, 2.5f, 5.5f, 3f);
    }

    private static void limitBelowSpreadBase() {
        // bases of 3.75, 4 and 4.25 under a limit of 4
        float[] least = {7.5f, 8f, 8.5f};
        float[] due = {4f, 4f, 4.25f};
        for (int i = 0; i < least.length; i++) {
            TrackGrid grid = Grids.columns("minmax(min,4) minmax(min,4)", 2, MUCH, 0f);
            Grids.item(grid, 1, 2, least[i], least[i]);
            laidOut(grid, due[i], due[i]);
        }
        // without this the limit of the first, still 4, would leave 12 for the second in (4)
        TrackGrid seen = Grids.columns("minmax(min,4) minmax(0,max)", 2, MUCH, 0f);
        Grids.item(seen, 1, 2, 10f, 16f);
        laidOut(seen, 10f, 6f);
    }

    private static void restOfLeast() {
        float[] least = {0f, down(12f), 12f, up(12f)};
        for (float x : least) {
            TrackGrid grid = Grids.columns("min min", 2, 0f, 3f);
            Grids.item(grid, 1, 1, 4f, 4f);
            Grids.item(grid, 2, 1, 5f, 5f);
            Grids.item(grid, 1, 2, x, MUCH);
            laidOut(grid, x > 12f ? up(4f) : 4f, x > 12f ? up(5f) : 5f);
        }
    }

    private static void restOfMost() {
        float[] most = {0f, down(12f), 12f, up(12f)};
        for (float x : most) {
            TrackGrid grid = Grids.columns("minmax(0,max) minmax(0,max)", 2, MUCH, 3f);
            Grids.item(grid, 1, 1, 0f, 4f);
            Grids.item(grid, 2, 1, 0f, 5f);
            Grids.item(grid, 1, 2, 0f, x);
            laidOut(grid, x > 12f ? up(4f) : 4f, x > 12f ? up(5f) : 5f);
        }
    }

    /** The gap is so great that each one more or less is seen. */
    private static void gapsOfSpread() {
        for (int span = 2; span <= 4; span++) {
            TrackGrid grid = Grids.columns("min min min min", 4, 0f, 8f);
            Grids.item(grid, 1, span, 100f, 100f);
            grid.layout();
            float part = (100f - 8f * (span - 1)) / span;
            for (int t = 0; t < 4; t++) {
                Check.isFloat("size in a span of " + span, grid.size(0, t), t < span ? part : 0f);
            }
            TrackGrid limits = Grids.columns("repeat(4,minmax(0,max))", 4, MUCH, 8f);
            Grids.item(limits, 1, span, 0f, 100f);
            limits.layout();
            for (int t = 0; t < 4; t++) {
                Check.isFloat("limit in a span of " + span, limits.size(0, t), t < span ? part : 0f);
            }
        }
    }

    private static void wideTracks() {
        String[] narrow = {"min", "0", "minmax(0,min)", "minmax(0,0fr)"};
        for (String text : narrow) {
            TrackGrid none = Grids.columns(text + " " + text, 2, MUCH, 0f);
            Grids.item(none, 1, 2, 0f, 40f);
            laidOut(none, 0f, 0f);
            TrackGrid one = Grids.columns(text + " minmax(0,max)", 2, MUCH, 0f);
            Grids.item(one, 1, 2, 0f, 40f);
            laidOut(one, 0f, 40f);
        }
        String[] wide = {"max", "auto", "minmax(0,auto)", "minmax(0,max)", "fit(50)", "fit(1)"};
        for (String text : wide) {
            TrackGrid two = Grids.columns(text + " " + text, 2, MUCH, 0f);
            Grids.item(two, 1, 2, 0f, 40f);
            laidOut(two, 20f, 20f);
        }
    }

    private static void endlessOwn() {
        TrackGrid grid = Grids.columns("minmax(3,max) minmax(0,max)", 2, MUCH, 0f);
        Grids.item(grid, 1, 2, 0f, 10f);
        laidOut(grid, 6.5f, 3.5f);
        // a limit that is not endless stays where it was
        TrackGrid single = Grids.columns("minmax(3,max) minmax(0,max)", 2, MUCH, 0f);
        Grids.item(single, 1, 2, 0f, 10f);
        Grids.item(single, 1, 1, 0f, 4f);
        laidOut(single, 7f, 3f);
    }

    private static void endlessOthers() {
        TrackGrid grid = Grids.columns("minmax(3,min) minmax(0,max)", 2, MUCH, 0f);
        Grids.item(grid, 1, 2, 0f, 10f);
        laidOut(grid, 3f, 7f);
        // with an item of its own the limit of the first is 5, not endless
        TrackGrid single = Grids.columns("minmax(3,min) minmax(0,max)", 2, MUCH, 0f);
        Grids.item(single, 1, 2, 0f, 10f);
        Grids.item(single, 1, 1, 5f, 9f);
        laidOut(single, 5f, 5f);
    }

    private static void endlessAtLast() {
        laidOut(Grids.columns("auto min max fit(9)", 4, MUCH, 0f), 0f, 0f, 0f, 0f);
        laidOut(Grids.columns("minmax(3,auto) minmax(4,min)", 2, MUCH, 0f), 3f, 4f);
        laidOut(Grids.columns("minmax(5,max)", 1, MUCH, 0f), 5f);
        // a base that grew in (3)
        TrackGrid grid = Grids.columns("min min", 2, MUCH, 0f);
        Grids.item(grid, 1, 2, 6f, 9f);
        laidOut(grid, 3f, 3f);
    }

    private static void gapsOfTracks() {
        float gap = 0.1f;
        for (int tracks = 0; tracks <= 12; tracks++) {
            TrackGrid grid = new TrackGrid();
            Check.template(grid, 1, Grids.ones(tracks), tracks);
            grid.room(1, 20f, gap);
            grid.layout();
            float free = 20f;
            for (int t = 0; t < tracks; t++) {
                free = free - 1f;
            }
            for (int t = 1; t < tracks; t++) {
                free = free - gap;
            }
            Check.is("tracks", grid.tracks(1), tracks);
            Check.isFloat("free of " + tracks + " tracks", grid.free(1), free);
        }
    }

    private static void freeAboveZero() {
        TrackGrid below = Grids.columns("minmax(2,9) 3", 2, down(6f), 1f);
        laidOut(below, 2f, 3f);
        Check.isFloat("free", below.free(0), down(6f) - 6f);
        TrackGrid none = Grids.columns("minmax(2,9) 3", 2, 6f, 1f);
        laidOut(none, 2f, 3f);
        Check.isFloat("free", none.free(0), 0f);
        TrackGrid above = Grids.columns("minmax(2,9) 3", 2, up(6f), 1f);
        laidOut(above, 2f + (up(6f) - 6f), 3f);
        Check.isFloat("free", above.free(0), 0f);
        laidOut(Grids.columns("minmax(0,9)", 1, 0f, 0f), 0f);
        laidOut(Grids.columns("minmax(0,9)", 1, Float.MIN_VALUE, 0f), Float.MIN_VALUE);
    }

    private static void baseBelowLimit() {
        float[] most = {0f, down(2f), 2f};
        for (float x : most) {
            TrackGrid grid = Grids.columns("minmax(2,max) minmax(2,9)", 2, 6f, 0f);
            Grids.item(grid, 1, 1, 0f, x);
            laidOut(grid, 2f, 4f);
        }
        // a track with just a little to grow takes part: what it leaves goes to the other one
        TrackGrid grid = Grids.columns("minmax(2,max) minmax(2,9)", 2, 6f, 0f);
        Grids.item(grid, 1, 1, 0f, up(2f));
        laidOut(grid, up(2f), down(4f));
        // when none is below its limit, FREE stays
        TrackGrid full = Grids.columns("minmax(2,3) minmax(2,4)", 2, 8f, 0f);
        laidOut(full, 3f, 4f);
        Check.isFloat("free", full.free(0), 1f);
    }

    private static void atMostTheLimit() {
        laidOut(Grids.columns("minmax(0,5) minmax(0,9)", 2, down(10f), 0f), down(5f), down(5f));
        laidOut(Grids.columns("minmax(0,5) minmax(0,9)", 2, 10f, 0f), 5f, 5f);
        laidOut(Grids.columns("minmax(0,5) minmax(0,9)", 2, up(10f), 0f), 5f, up(up(5f)));
        laidOut(Grids.columns("minmax(0,5) minmax(0,9)", 2, down(14f), 0f), 5f, down(14f) - 5f);
        laidOut(Grids.columns("minmax(0,5) minmax(0,9)", 2, 14f, 0f), 5f, 9f);
        TrackGrid over = Grids.columns("minmax(0,5) minmax(0,9)", 2, up(14f), 0f);
        laidOut(over, 5f, 9f);
        Check.isFloat("free", over.free(0), up(14f) - 14f);
    }

    private static void becomesTheLimit() {
        float low = 9f / 1000f;
        float high = 115f / 1000f;
        Check.is("the sum is not the limit", low + (high - low) != high, true);
        laidOut(Grids.columns("minmax(0.009,0.115)", 1, MUCH, 0f), high);
        // also when the part is just what it may get
        laidOut(Grids.columns("minmax(0.009,0.115)", 1, high, 0f), high);
    }

    /**
     * Ten tracks, of which in each of eight goes one comes to its limit, a unit above what it has; the
     * ninth go is of a single unit for each of two. All numbers are whole units below 2^24, so exact.
     */
    private static void manyGoes() {
        float unit = 1f / 4096f;
        int[] part = {623530, 69281, 8660, 1237, 206, 41, 10, 3};
        TrackGrid grid = Grids.columns("repeat(8,auto) repeat(2,minmax(0,9999))", 10, 6235300 * unit, 0f);
        float[] due = new float[10];
        int got = 0;
        for (int t = 0; t < 8; t++) {
            due[t] = (got + 1) * unit;
            Grids.item(grid, t + 1, 1, 0f, due[t]);
            got += part[t];
        }
        due[8] = (got + 1) * unit;
        due[9] = due[8];
        laidOut(grid, due);
        Check.isFloat("free", grid.free(0), 0f);
    }

    /** As many tracks as there can be, and fewer of them behind that. */
    private static void twelveAndFewer() {
        TrackGrid grid = Grids.columns("repeat(9,minmax(0,9)) 0 0 minmax(0,9)", 12, 20f, 0f);
        laidOut(grid, 2f, 2f, 2f, 2f, 2f, 2f, 2f, 2f, 2f, 0f, 0f, 2f);
        Check.template(grid, 0, "repeat(9,auto) repeat(3,auto)", 12);
        grid.room(0, 24f, 0f);
        grid.put(0, 3);
        laidOut(grid, 2f, 2f, 2f, 2f, 2f, 2f, 2f, 2f, 2f, 2f, 2f, 2f);
        Check.template(grid, 0, "repeat(9,1fr) repeat(3,1fr)", 12);
        laidOut(grid, 2f, 2f, 2f, 2f, 2f, 2f, 2f, 2f, 2f, 2f, 2f, 2f);
        Check.template(grid, 0, "minmax(0,9) minmax(0,99)", 2);
        laidOut(grid, 9f, 15f);
        Check.template(grid, 0, "", 0);
        laidOut(grid, 24f);
    }

    /**
     * A part that rounds to 0f changes nothing, again and again: the bound alone ends this. More than it
     * can't be seen: each go brings a track to its limit, or leaves of FREE no more than roundings.
     */
    private static void endsWhereNothingIsGot() {
        TrackGrid two = Grids.columns("minmax(0,9) minmax(0,9)", 2, Float.MIN_VALUE, 0f);
        laidOut(two, 0f, 0f);
        Check.isFloat("free", two.free(0), Float.MIN_VALUE);
        two.put(0, 1);
        laidOut(two, 0f, 0f);
        Check.isFloat("half of the least float is 0f", two.at(0, 0), 0f);
        two.put(0, 2);
        laidOut(two, 0f, 0f);
        Check.isFloat("at the end", two.at(0, 0), Float.MIN_VALUE);
        // 14 of the least floats: one for each of ten, and four that stay
        TrackGrid ten = Grids.columns("repeat(9,minmax(0,9)) minmax(0,9)", 10, 14 * Float.MIN_VALUE, 0f);
        float one = Float.MIN_VALUE;
        laidOut(ten, one, one, one, one, one, one, one, one, one, one);
        Check.isFloat("free", ten.free(0), 4 * Float.MIN_VALUE);
    }

    private static void leftAboveZero() {
        TrackGrid below = Grids.columns("4 1fr", 2, down(5f), 1f);
        laidOut(below, 4f, 0f);
        Check.isFloat("free", below.free(0), down(5f) - 5f);
        TrackGrid none = Grids.columns("4 1fr", 2, 5f, 1f);
        laidOut(none, 4f, 0f);
        Check.isFloat("free", none.free(0), 0f);
        TrackGrid above = Grids.columns("4 1fr", 2, up(5f), 1f);
        laidOut(above, 4f, up(5f) - 5f);
        Check.isFloat("free", above.free(0), 0f);
        laidOut(Grids.columns("1fr", 1, 0f, 0f), 0f);
        laidOut(Grids.columns("1fr", 1, Float.MIN_VALUE, 0f), Float.MIN_VALUE);
        laidOut(Grids.columns("1fr", 1, 4096f, 0f), 4096f);
        laidOut(Grids.columns("9999.999fr", 1, 0f, 0f), 0f);
        // one share is 0f, not less: a share of 0 of it is 0f, without a sign
        laidOut(Grids.columns("4 0fr", 2, 3.5f, 0f), 4f, 0f);
    }

    private static void sumOfShares() {
        float below = 999f / 1000f;
        float above = 1f + 1f / 1000f;
        laidOut(Grids.columns("0.999fr", 1, 100f, 0f), below * 100f);
        laidOut(Grids.columns("1fr", 1, 100f, 0f), 100f);
        laidOut(Grids.columns("1.001fr", 1, 100f, 0f), above * (100f / above));
        laidOut(Grids.columns("0fr", 1, 100f, 0f), 0f);
        laidOut(Grids.columns("0.5fr 0.5fr", 2, 100f, 0f), 50f, 50f);
        laidOut(Grids.columns("0.5fr 0.499fr", 2, 100f, 0f), 50f, 499f / 1000f * 100f);
        float sum = 0.5f + 501f / 1000f;
        laidOut(Grids.columns("0.5fr 0.501fr", 2, 100f, 0f), 0.5f * (100f / sum), 501f / 1000f * (100f / sum));
        TrackGrid half = Grids.columns("0.25fr 0.25fr", 2, 100f, 0f);
        laidOut(half, 25f, 25f);
        Check.isFloat("free", half.free(0), 50f);
    }

    private static void baseAboveShare() {
        float[] least = {0f, down(50f), 50f};
        for (float x : least) {
            TrackGrid grid = Grids.columns("1fr 1fr", 2, 100f, 0f);
            Grids.item(grid, 1, 1, x, x);
            laidOut(grid, 50f, 50f);
        }
        TrackGrid above = Grids.columns("1fr 1fr", 2, 100f, 0f);
        Grids.item(above, 1, 1, up(50f), up(50f));
        laidOut(above, up(50f), 100f - up(50f));
        // at the bound a track is not set aside: F stays 0.5f, counted as 1f
        laidOut(Grids.columns("minmax(25,0.25fr) 0.25fr", 2, 100f, 0f), 25f, 25f);
        laidOut(Grids.columns("minmax(25.001,0.25fr) 0.25fr", 2, 100f, 0f), 25f + 1f / 1000f, 0.25f * (100f - (25f + 1f / 1000f)));
        // a share of 0 with any base is set aside, with none it is not
        laidOut(Grids.columns("minmax(1,0fr) 1fr", 2, 100f, 0f), 1f, 99f);
        laidOut(Grids.columns("0fr 1fr", 2, 100f, 0f), 0f, 100f);
    }

    private static void allSetAside() {
        // two at once, then a third one by what they leave, then the last gets the rest
        laidOut(Grids.columns("minmax(40,1fr) minmax(30,1fr) 1fr", 3, 80f, 0f), 40f, 30f, 10f);
        laidOut(Grids.columns("minmax(70,1fr) minmax(20,1fr) 1fr", 3, 100f, 0f), 70f, 20f, 10f);
        laidOut(Grids.columns("minmax(50,1fr) minmax(50.001,1fr)", 2, 100f, 0f), 50f, 50f + 1f / 1000f);
        // each of twelve, one after the other: every go sets one more aside
        TrackGrid chain = new TrackGrid();
        Check.template(chain, 0, "repeat(9,1fr) repeat(3,1fr)", 12);
        float[] due = new float[12];
        float left = 4096f;
        for (int t = 0; t < 10; t++) {
            float one = left / (12 - t);
            due[t] = one + 1f;
            Grids.item(chain, t + 1, 1, due[t], due[t]);
            left = left - due[t];
        }
        due[10] = left / 2f;
        due[11] = left / 2f;
        chain.room(0, 4096f, 0f);
        laidOut(chain, due);
        // all of them: nothing is left over which F could be summed
        TrackGrid all = Grids.columns("minmax(70,1fr) minmax(80,1fr)", 2, 100f, 0f);
        laidOut(all, 70f, 80f);
        Check.isFloat("free", all.free(0), -50f);
    }

    private static void sumOfOtherShares() {
        float below = 999f / 1000f;
        float above = 1f + 1f / 1000f;
        laidOut(Grids.columns("minmax(90,1fr) 0.999fr", 2, 100f, 0f), 90f, below * 10f);
        laidOut(Grids.columns("minmax(90,1fr) 1fr", 2, 100f, 0f), 90f, 10f);
        laidOut(Grids.columns("minmax(90,1fr) 1.001fr", 2, 100f, 0f), 90f, above * (10f / above));
    }

    private static void leftBelowZeroAtLast() {
        laidOut(Grids.columns("minmax(99.999,1fr) 1fr", 2, 100f, 0f), 99f + 999f / 1000f, 100f - (99f + 999f / 1000f));
        laidOut(Grids.columns("minmax(100,1fr) 1fr", 2, 100f, 0f), 100f, 0f);
        laidOut(Grids.columns("minmax(100.001,1fr) 1fr", 2, 100f, 0f), 100f + 1f / 1000f, 0f);
        // then a base above 0f is above its share, and stays
        laidOut(Grids.columns("minmax(100,1fr) minmax(1,1fr)", 2, 100f, 0f), 100f, 1f);
    }

    private static void noShareTrack() {
        TrackGrid grid = Grids.columns("4 auto min", 3, 100f, 1f);
        laidOut(grid, 4f, 0f, 0f);
        Check.isFloat("free", grid.free(0), 94f);
        // no track at all
        TrackGrid empty = new TrackGrid();
        empty.room(1, 100f, 7f);
        for (int how = 0; how < 4; how++) {
            empty.put(1, how);
            Check.is("layout", empty.layout(), 0);
            Check.sizes(empty, 1);
            Check.isFloat("free", empty.free(1), 100f);
        }
    }

    private static void stretchedAboveZero() {
        for (int how = 0; how < 4; how++) {
            TrackGrid below = Grids.columns("auto 5", 2, down(5f), 0f);
            below.put(0, how);
            laidOut(below, 0f, 5f);
            Check.isFloat("free", below.free(0), down(5f) - 5f);
            TrackGrid none = Grids.columns("auto 5", 2, 5f, 0f);
            none.put(0, how);
            laidOut(none, 0f, 5f);
            Check.isFloat("free", none.free(0), 0f);
            TrackGrid above = Grids.columns("auto 5", 2, up(5f), 0f);
            above.put(0, how);
            laidOut(above, how == 3 ? up(5f) - 5f : 0f, 5f);
            Check.isFloat("free", above.free(0), how == 3 ? 0f : up(5f) - 5f);
        }
    }

    private static void stretchedTracks() {
        String[] stiff = {"max", "min", "fit(3)", "0", "minmax(auto,max)", "minmax(auto,0)", "minmax(0,0.5fr)"};
        for (String text : stiff) {
            TrackGrid none = Grids.columns(text, 1, 8f, 0f);
            none.put(0, 3);
            float size = text.endsWith("fr)") ? 4f : 0f;
            laidOut(none, size);
            Check.isFloat("free", none.free(0), 8f - size);
            TrackGrid one = Grids.columns(text + " auto", 2, 8f, 0f);
            one.put(0, 3);
            laidOut(one, size, 8f - size);
            Check.isFloat("free", one.free(0), 0f);
        }
        TrackGrid two = Grids.columns("minmax(1,auto) auto", 2, 8f, 1f);
        two.put(0, 3);
        laidOut(two, 4f, 3f);
        // tracks behind the template have HIGH AUTO
        two.item(3, 1, 1, 1);
        laidOut(two, 1f + 5f / 3f, 5f / 3f, 5f / 3f);
    }
}
