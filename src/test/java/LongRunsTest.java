import java.util.function.Supplier;

/**
 * "An object is used for at most 512 calls": runs of so many calls on one object, good and bad ones mixed, the answer
 * of every one of them against Twin.
 */
public final class LongRunsTest {
    private static final int CALLS = 512;
    private static final int RUNS = 500;
    private static final int[] FAR = {-1, -2, 13, 14, 255, 256, 65536, Integer.MIN_VALUE, Integer.MAX_VALUE};
    private static final float[] FAR_FLOATS = {-0f, -Float.MIN_VALUE, -1f, Math.nextUp(4096f), 5000f, Float.MAX_VALUE, Float.NaN,
        Float.POSITIVE_INFINITY, Float.NEGATIVE_INFINITY};
    private final Chance chance = new Chance(512L);
    private TrackGrid grid;
    private Twin twin;
    private int run;
    private int calls;

    public static void main(String[] args) {
        LongRunsTest test = new LongRunsTest();
        for (int run = 0; run < RUNS; run++) {
            test.run(run);
        }
        Check.finish();
    }

    private void run(int number) {
        run = number;
        calls = 0;
        grid = new TrackGrid();
        twin = new Twin();
        while (calls < CALLS) {
            if (chance.below(3) == 0) {
                tell();
            } else {
                ask();
            }
        }
    }

    private void same(String what, Supplier<Object> got, Supplier<Object> due) {
        if (calls < CALLS) {
            calls++;
            Check.isText("run " + run + ", call " + calls + ": " + what, Check.answer(got), Check.answer(due));
        }
    }

    private int axis() {
        return chance.below(12) == 0 ? 2 + chance.below(2) * -3 : chance.below(2);
    }

    private int number(int most) {
        return chance.below(25) == 0 ? FAR[chance.below(FAR.length)] : chance.below(most + 1);
    }

    private float measure() {
        return chance.below(20) == 0 ? FAR_FLOATS[chance.below(FAR_FLOATS.length)] : chance.measure(chance.below(4) == 0);
    }

    private void tell() {
        switch (chance.below(9)) {
            case 0:
                writeText();
                tellTemplate(axis());
                break;
            case 1:
                char c = (char) chance.below(300);
                same("write of " + (int) c, () -> grid.write(c), () -> twin.write(c));
                break;
            case 2:
                tellTemplate(axis());
                break;
            case 3:
                tellItem();
                break;
            case 4:
                tellNeed();
                break;
            case 5:
                tellFlow(chance.below(2) == 0, chance.below(2) == 0);
                break;
            case 6:
                tellRoom(axis(), measure(), chance.below(2) == 0 ? measure() : measure() / 50f);
                break;
            case 7:
                tellPut(axis(), chance.below(12) == 0 ? number(5) : chance.below(4));
                break;
            default:
                same("layout()", () -> grid.layout(), () -> twin.layout());
                break;
        }
    }

    /** Short texts, so that not all calls of a run go into them. */
    private void writeText() {
        String text = chance.template();
        for (int i = 0; i < 20 && text.length() > 16; i++) {
            text = chance.template();
        }
        String written = chance.below(4) == 0 ? chance.spoilt(text) : text;
        for (char c : written.toCharArray()) {
            same("write of " + c, () -> grid.write(c), () -> twin.write(c));
        }
    }

    private void tellTemplate(int axis) {
        same("template(" + axis + ")", () -> grid.template(axis), () -> twin.template(axis));
    }

    private void tellItem() {
        int[] start = new int[2];
        int[] span = new int[2];
        for (int axis = 0; axis < 2; axis++) {
            span[axis] = chance.below(25) == 0 ? number(6) : 1 + chance.below(2) * chance.below(4);
            start[axis] = chance.below(2) == 0 ? 0 : number(chance.below(4) == 0 ? 12 : 5);
        }
        String what = "item(" + start[0] + ", " + span[0] + ", " + start[1] + ", " + span[1] + ")";
        same(what, () -> grid.item(start[0], span[0], start[1], span[1]), () -> twin.item(start[0], span[0], start[1], span[1]));
    }

    private void tellNeed() {
        int item = number(chance.below(3) == 0 ? 10 : 4);
        int axis = axis();
        float least = measure();
        float most = chance.below(10) == 0 ? measure() : Math.min(4096f, least + measure());
        String what = "need(" + item + ", " + axis + ", " + least + ", " + most + ")";
        same(what, () -> grid.need(item, axis, least, most), () -> twin.need(item, axis, least, most));
    }

    private void tellFlow(boolean columns, boolean packed) {
        same("flow(" + columns + ", " + packed + ")", () -> {
            grid.flow(columns, packed);
            return "";
        }, () -> {
            twin.flow(columns, packed);
            return "";
        });
    }

    private void tellRoom(int axis, float space, float gap) {
        same("room(" + axis + ", " + space + ", " + gap + ")", () -> grid.room(axis, space, gap), () -> twin.room(axis, space, gap));
    }

    private void tellPut(int axis, int how) {
        same("put(" + axis + ", " + how + ")", () -> grid.put(axis, how), () -> twin.put(axis, how));
    }

    private void ask() {
        int axis = axis();
        int track = number(chance.below(2) == 0 ? 12 : 3);
        int item = number(chance.below(2) == 0 ? 10 : 3);
        switch (chance.below(8)) {
            case 0:
                same("place()", () -> grid.place(), () -> twin.place());
                break;
            case 1:
                same("tracks(" + axis + ")", () -> grid.tracks(axis), () -> twin.tracks(axis));
                break;
            case 2:
                same("size(" + axis + ", " + track + ")", () -> grid.size(axis, track), () -> twin.size(axis, track));
                break;
            case 3:
                same("at(" + axis + ", " + track + ")", () -> grid.at(axis, track), () -> twin.at(axis, track));
                break;
            case 4:
                same("line(" + item + ", " + axis + ")", () -> grid.line(item, axis), () -> twin.line(item, axis));
                break;
            case 5:
                same("extent(" + item + ", " + axis + ")", () -> grid.extent(item, axis), () -> twin.extent(item, axis));
                break;
            case 6:
                float x = point(item, 0);
                float y = point(item, 1);
                same("hit(" + x + ", " + y + ")", () -> grid.hit(x, y), () -> twin.hit(x, y));
                break;
            default:
                same("free(" + axis + ")", () -> grid.free(axis), () -> twin.free(axis));
                break;
        }
    }

    /** A point on, at the edge of, or just beside an item, if it is placed. */
    private float point(int item, int axis) {
        int line = twin.line(item, axis);
        if (line == 0) {
            return measure();
        }
        float from = twin.at(axis, line - 1);
        float to = from + twin.extent(item, axis);
        float[] points = {from, Math.nextUp(from), (from + to) / 2f, Math.nextDown(to), from, (from + to) / 2f, Math.nextDown(from), to};
        return points[chance.below(points.length)];
    }
}
