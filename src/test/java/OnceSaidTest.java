import java.util.NoSuchElementException;
import java.util.function.Consumer;

/** Sentences that the document says once only, and that bind many calls. */
public final class OnceSaidTest {
    private static final int CALLS = 512;
    private static final String[] TEMPLATES = {"", "0", "auto", "min max", "0fr 1fr", "fit(0) fit(3)", "minmax(0,auto) minmax(max,0)",
        "minmax(min,1fr) auto", "minmax(auto,max) 0.5fr 2", "repeat(3,auto min)"};

    public static void main(String[] args) {
        Check.sentence("at most 512 calls: write", OnceSaidTest::manyWrites);
        Check.sentence("at most 512 calls: template, place", OnceSaidTest::manyTemplates);
        Check.sentence("at most 512 calls: item", OnceSaidTest::manyItems);
        Check.sentence("at most 512 calls: need, flow, room, put", OnceSaidTest::manyTellings);
        Check.sentence("at most 512 calls: layout", OnceSaidTest::manyLayouts);
        Check.sentence("at most 512 calls: tracks to free", OnceSaidTest::manyAnswers);
        Check.sentence("-0f counts as 0f, also as space and gap", OnceSaidTest::zeroWithSign);
        Check.sentence("whatever was taken since; no such axis is no refusal", OnceSaidTest::latestRefusal);
        Check.sentence("of the latest layout (whatever was told since)", OnceSaidTest::toldBehindALayout);
        Check.sentence("no layout was made (whatever was told)", OnceSaidTest::toldWithoutALayout);
        Check.sentence("there was no layout with it", OnceSaidTest::laterItems);
        Check.sentence("NoSuchElementException when line answers 0", OnceSaidTest::extentAndLine);
        Check.finish();
    }

    private static void manyWrites() {
        TrackGrid grid = new TrackGrid();
        for (int call = 1; call <= CALLS; call++) {
            Check.is("write " + call, grid.write('1'), call <= 40);
        }
        TrackGrid anew = new TrackGrid();
        for (int call = 2; call <= CALLS; call += 2) {
            Check.is("write", anew.write('7'), true);
            Check.is("template of call " + call, anew.template(call / 2 % 2), 1);
        }
    }

    private static void manyTemplates() {
        TrackGrid grid = new TrackGrid();
        for (int round = 0; round < 101; round++) {
            int axis = round % 2;
            grid.write('1');
            grid.write(round % 3 == 0 ? ' ' : 'x');
            Check.throwing("template", IllegalArgumentException.class, () -> grid.template(axis));
            Check.is("place in round " + round, grid.place(), round % 3 == 0 ? 2 : 1);
            Check.is("the empty text", grid.template(axis), 0);
        }
        Check.is("layout", grid.layout(), 0);
        Check.is("place", grid.place(), 1);
    }

    private static void manyItems() {
        TrackGrid grid = new TrackGrid();
        for (int call = 0; call < CALLS - 2; call++) {
            if (call < 10) {
                Check.is("item", grid.item(0, 1, 0, 1), call);
            } else if (call % 2 == 0) {
                Check.throwing("item", IllegalStateException.class, () -> grid.item(0, 1, 0, 1));
            } else {
                Check.throwing("item", IllegalArgumentException.class, () -> grid.item(0, 1, 13, 1));
            }
        }
        Check.is("layout", grid.layout(), 10);
        Check.is("line of the last", grid.line(9, 1), 10);
    }

    private static void manyTellings() {
        TrackGrid grid = new TrackGrid();
        grid.item(0, 1, 0, 1);
        for (int round = 1; round <= 126; round++) {
            Check.is("need", grid.need(0, 0, round, round), true);
            Check.is("room", grid.room(0, 2f * round, 0f), true);
            Check.is("put", grid.put(0, round % 4), true);
            grid.flow(round % 2 == 0, round % 3 == 0);
        }
        Check.is("layout", grid.layout(), 1);
        Check.isFloat("size", grid.size(0, 0), 126f);
        Check.isFloat("free", grid.free(0), 126f);
        Check.isFloat("at", grid.at(0, 0), 126f);
    }

    /** Each layout begins anew: nothing of the one before is left in it. */
    private static void manyLayouts() {
        TrackGrid grid = crowded();
        grid.layout();
        String first = seen(grid);
        TrackGrid again = crowded();
        for (int times = 0; times < 250; times++) {
            again.layout();
        }
        Check.isText("behind 250 layouts", seen(again), first);
    }

    private static void manyAnswers() {
        TrackGrid grid = crowded();
        grid.layout();
        String first = seen(grid);
        Check.isText("asked again", seen(grid), first);
        Check.isText("asked a third time", seen(grid), first);
    }

    private static void zeroWithSign() {
        for (String text : TEMPLATES) {
            for (int how = 0; how < 4; how++) {
                String due = seen(zeros(text, how, 0f, 0f, 0f));
                Check.isText("all -0f with " + text, seen(zeros(text, how, -0f, -0f, -0f)), due);
                Check.isText("needs -0f with " + text, seen(zeros(text, how, -0f, 0f, 0f)), due);
                Check.isText("space -0f with " + text, seen(zeros(text, how, 0f, -0f, 0f)), due);
                Check.isText("gap -0f with " + text, seen(zeros(text, how, 0f, 0f, -0f)), due);
                String roomy = seen(zeros(text, how, 0f, 50f, 0f));
                Check.isText("needs and gap -0f in a space with " + text, seen(zeros(text, how, -0f, 50f, -0f)), roomy);
            }
        }
        Check.is("no sign anywhere", seen(zeros("", 0, -0f, -0f, -0f)).contains("80000000"), false);
    }

    /** Items of each span, all with the same need and room on both axes. */
    private static TrackGrid zeros(String text, int how, float need, float space, float gap) {
        TrackGrid grid = new TrackGrid();
        for (int axis = 0; axis < 2; axis++) {
            Check.write(grid, text);
            grid.template(axis);
            Check.is("room", grid.room(axis, space, gap), true);
            Check.is("put", grid.put(axis, how), true);
        }
        for (int span = 1; span <= 4; span++) {
            int item = grid.item(0, span, span, 5 - span);
            Check.is("need", grid.need(item, 0, need, need), true);
            Check.is("need", grid.need(item, 1, need, need), true);
        }
        grid.layout();
        return grid;
    }

    private static void latestRefusal() {
        TrackGrid grid = new TrackGrid();
        Check.throwing("no such axis at first", IllegalArgumentException.class, () -> grid.template(2));
        Check.is("place", grid.place(), -1);
        Check.refused(grid, 1, "1 auto x", 7);
        Check.template(grid, 0, "1", 1);
        Check.template(grid, 1, "1 1", 2);
        Check.template(grid, 0, "", 0);
        Check.write(grid, "zzz");
        Check.throwing("no such axis", IllegalArgumentException.class, () -> grid.template(-1));
        Check.throwing("no such axis", IllegalArgumentException.class, () -> grid.template(2));
        grid.item(0, 1, 0, 1);
        grid.layout();
        Check.is("place of the one refused latest", grid.place(), 7);
        Check.throwing("the text that stayed", IllegalArgumentException.class, () -> grid.template(0));
        Check.is("place of this one", grid.place(), 0);
        // a refusal on either axis, and a place that is greater than the one before
        Check.refused(grid, 1, "fit(12.5", 8);
        Check.refused(grid, 0, "fit)", 3);
        Check.is("the template before stays", grid.tracks(1), 2);
    }

    /** A grid in which each telling changes something, once a layout comes behind it. */
    private static TrackGrid crowded() {
        TrackGrid grid = new TrackGrid();
        Check.template(grid, 0, "auto 10 fit(9)", 3);
        Check.template(grid, 1, "min 0.5fr", 2);
        grid.room(0, 90f, 2.5f);
        grid.room(1, 70f, 1.5f);
        grid.put(0, 1);
        grid.put(1, 2);
        grid.item(0, 2, 0, 1);
        grid.item(0, 3, 0, 2);
        grid.item(0, 1, 1, 1);
        grid.item(3, 1, 2, 1);
        grid.item(0, 1, 0, 1);
        for (int item = 0; item < 5; item++) {
            grid.need(item, 0, 3f + item, 8f + 2f * item);
            grid.need(item, 1, 2f + item, 5f + item);
        }
        return grid;
    }

    private static void toldBehindALayout() {
        for (int axis = 0; axis < 2; axis++) {
            int a = axis;
            told("a template of axis " + a, grid -> Check.template(grid, a, "max 4fr 3 4 5", 5));
            told("no template of axis " + a, grid -> Check.template(grid, a, "", 0));
            told("need on axis " + a, grid -> Check.is("need", grid.need(0, a, 33f, 44f), true));
            told("need of the last on axis " + a, grid -> Check.is("need", grid.need(4, a, 0f, 0f), true));
            told("space of axis " + a, grid -> Check.is("room", grid.room(a, 500f, 1f), true));
            told("no space of axis " + a, grid -> Check.is("room", grid.room(a, 0f, 0f), true));
            told("gap of axis " + a, grid -> Check.is("room", grid.room(a, 80f, 9f), true));
            for (int how = 0; how < 4; how++) {
                int h = how;
                told("put of axis " + a + ": " + how, h != 1 + a, grid -> Check.is("put", grid.put(a, h), true));
            }
        }
        told("flow along columns", grid -> grid.flow(true, false));
        told("flow packed", grid -> grid.flow(false, true));
        told("flow both", grid -> grid.flow(true, true));
        told("an item that stands on others", grid -> Check.is("item", grid.item(1, 4, 1, 4), 5));
        told("an item far away", grid -> Check.is("item", grid.item(12, 1, 12, 1), 5));
        told("an item by itself", grid -> Check.is("item", grid.item(0, 1, 0, 1), 5));
        told("what is written only", false, grid -> Check.write(grid, "5 5"));
        told("what is refused", false, grid -> {
            Check.refused(grid, 0, "?", 0);
            Check.throwing("item", IllegalArgumentException.class, () -> grid.item(0, 0, 0, 1));
            Check.is("need", grid.need(0, 0, 2f, 1f), false);
            Check.is("room", grid.room(0, -1f, 0f), false);
            Check.is("put", grid.put(0, 4), false);
        });
    }

    private static void told(String what, Consumer<TrackGrid> telling) {
        told(what, true, telling);
    }

    private static void told(String what, boolean shows, Consumer<TrackGrid> telling) {
        TrackGrid grid = crowded();
        Check.is("layout", grid.layout(), 5);
        String before = seen(grid);
        telling.accept(grid);
        Check.isText("behind " + what, seen(grid), before);
        grid.layout();
        Check.is("a layout behind it shows " + what, !seen(grid).equals(before), shows);
    }

    private static void toldWithoutALayout() {
        String none = seen(new TrackGrid());
        Check.isText("no layout", seen(crowded()), none);
        TrackGrid grid = crowded();
        grid.layout();
        Check.is("one layout shows it all", seen(grid).equals(none), false);
    }

    private static void laterItems() {
        TrackGrid grid = new TrackGrid();
        Check.template(grid, 0, "10", 1);
        Check.template(grid, 1, "10", 1);
        for (int item = 0; item < 10; item++) {
            Check.is("item", grid.item(1, 1, 1 + item, 1), item);
            grid.need(item, 1, 10f, 10f);
            for (int axis = 0; axis < 2; axis++) {
                int i = item;
                int a = axis;
                Check.is("line before a layout with it", grid.line(i, a), 0);
                Check.throwing("extent before a layout with it", NoSuchElementException.class, () -> grid.extent(i, a));
            }
            Check.is("hit before a layout with it", grid.hit(5f, 5f + 10f * item), -1);
            if (item > 0) {
                Check.is("hit of the one before", grid.hit(5f, 5f + 10f * (item - 1)), item - 1);
            }
            Check.is("layout", grid.layout(), item + 1);
            Check.lines(grid, item, 1, 1 + item);
            Check.is("hit", grid.hit(5f, 5f + 10f * item), item);
        }
    }

    private static void extentAndLine() {
        TrackGrid none = new TrackGrid();
        extentWhereLine(none);
        none.layout();
        extentWhereLine(none);
        extentWhereLine(crowded());
        TrackGrid grid = crowded();
        grid.layout();
        extentWhereLine(grid);
        // one column: what has no place in it is not placed, and what was made since has no line either
        TrackGrid narrow = Grids.columns("7", 1, 0f, 0f);
        for (int item = 0; item < 5; item++) {
            narrow.item(0, 1, 1 + item / 2, 1);
        }
        Check.is("layout", narrow.layout(), 3);
        narrow.item(1, 1, 1, 1);
        extentWhereLine(narrow);
        Check.is("line of one not placed", narrow.line(1, 0), 0);
        Check.is("line of one placed", narrow.line(4, 1), 3);
    }

    private static void extentWhereLine(TrackGrid grid) {
        for (int item = -1; item <= 10; item++) {
            for (int axis = -1; axis <= 2; axis++) {
                int i = item;
                int a = axis;
                boolean none = Check.answer(() -> grid.extent(i, a)).equals("throws.NoSuchElementException");
                Check.is("extent(" + i + ", " + a + ") throws", none, grid.line(i, a) == 0);
            }
        }
    }

    /** All answers about the latest layout, in some 130 calls. */
    private static String seen(TrackGrid grid) {
        StringBuilder all = new StringBuilder();
        for (int axis = 0; axis < 2; axis++) {
            int a = axis;
            all.append(" tracks ").append(grid.tracks(a)).append(" free ").append(Check.answer(() -> grid.free(a)));
            for (int track = 0; track <= 12; track++) {
                int t = track;
                all.append(" size ").append(Check.answer(() -> grid.size(a, t)));
                all.append(" at ").append(Check.answer(() -> grid.at(a, t)));
            }
            for (int item = 0; item < 10; item++) {
                int i = item;
                all.append(" line ").append(grid.line(i, a)).append(" extent ").append(Check.answer(() -> grid.extent(i, a)));
            }
        }
        for (float x = 1f; x < 90f; x += 20f) {
            for (float y = 1f; y < 70f; y += 15f) {
                all.append(" hit ").append(grid.hit(x, y));
            }
        }
        return all.toString();
    }
}
