import java.util.ArrayList;
import java.util.List;
import java.util.NoSuchElementException;

/** The whole face on top of Model: what each call of the document answers or throws, in its own words. */
final class Twin {
    private final Model model = new Model();
    private final StringBuilder text = new StringBuilder();
    private int place = -1;
    private Seen seen = new Seen();

    /** What is to be seen of one layout: copies, so that nothing told since can change them. */
    private static final class Seen {
        boolean laidOut;
        final List<float[]> sizes = new ArrayList<>();
        final List<float[]> positions = new ArrayList<>();
        final List<int[]> lines = new ArrayList<>();
        final List<float[]> extents = new ArrayList<>();
        final float[] free = new float[2];
    }

    boolean write(char c) {
        if (text.length() == 40 || c < 32 || c > 126) {
            return false;
        }
        text.append(c);
        return true;
    }

    int template(int axis) {
        if (axis < 0 || axis > 1) {
            throw new IllegalArgumentException();
        }
        String written = text.toString();
        text.setLength(0);
        if (!Model.isTemplate(written)) {
            place = Model.placeOf(written);
            throw new IllegalArgumentException();
        }
        model.template.set(axis, Model.tracksOf(written));
        return model.template.get(axis).size();
    }

    int place() {
        return place;
    }

    int item(int column, int columns, int row, int rows) {
        int[] start = {column, row};
        int[] span = {columns, rows};
        for (int axis = 0; axis < 2; axis++) {
            if (start[axis] < 0 || start[axis] > 12 || span[axis] < 1 || span[axis] > 4 || start[axis] + span[axis] > 13) {
                throw new IllegalArgumentException();
            }
        }
        if (model.items.size() == 10) {
            throw new IllegalStateException();
        }
        model.items.add(new Model.Item(start, span));
        return model.items.size() - 1;
    }

    boolean need(int item, int axis, float least, float most) {
        if (item < 0 || item >= model.items.size() || axis < 0 || axis > 1 || isOut(least) || isOut(most) || least > most) {
            return false;
        }
        model.items.get(item).least[axis] = unsigned(least);
        model.items.get(item).most[axis] = unsigned(most);
        return true;
    }

    void flow(boolean columns, boolean packed) {
        model.columns = columns;
        model.packed = packed;
    }

    boolean room(int axis, float space, float gap) {
        if (axis < 0 || axis > 1 || isOut(space) || isOut(gap)) {
            return false;
        }
        model.space[axis] = unsigned(space);
        model.gap[axis] = unsigned(gap);
        return true;
    }

    boolean put(int axis, int how) {
        if (axis < 0 || axis > 1 || how < 0 || how > 3) {
            return false;
        }
        model.how[axis] = how;
        return true;
    }

    private static boolean isOut(float x) {
        return Float.isNaN(x) || x < 0f || x > 4096f;
    }

    private static float unsigned(float x) {
        return x == 0f ? 0f : x;
    }

    int layout() {
        int placed = model.layout();
        seen = new Seen();
        seen.laidOut = true;
        for (int axis = 0; axis < 2; axis++) {
            List<Model.Track> tracks = model.tracks.get(axis);
            float[] sizes = new float[tracks.size()];
            float[] positions = new float[tracks.size()];
            for (int t = 0; t < sizes.length; t++) {
                sizes[t] = tracks.get(t).base;
                positions[t] = tracks.get(t).position;
            }
            seen.sizes.add(sizes);
            seen.positions.add(positions);
            seen.free[axis] = model.free[axis];
        }
        for (Model.Item item : model.items) {
            seen.lines.add(item.line.clone());
            boolean stands = item.line[0] != 0;
            seen.extents.add(stands ? new float[] {model.extent(item, 0), model.extent(item, 1)} : new float[2]);
        }
        return placed;
    }

    int tracks(int axis) {
        return axis < 0 || axis > 1 || !seen.laidOut ? -1 : seen.sizes.get(axis).length;
    }

    float size(int axis, int track) {
        if (track < 0 || track >= tracks(axis)) {
            throw new NoSuchElementException();
        }
        return seen.sizes.get(axis)[track];
    }

    float at(int axis, int track) {
        if (track < 0 || track >= tracks(axis)) {
            throw new NoSuchElementException();
        }
        return seen.positions.get(axis)[track];
    }

    int line(int item, int axis) {
        return item < 0 || item >= seen.lines.size() || axis < 0 || axis > 1 ? 0 : seen.lines.get(item)[axis];
    }

    float extent(int item, int axis) {
        if (line(item, axis) == 0) {
            throw new NoSuchElementException();
        }
        return seen.extents.get(item)[axis];
    }

    int hit(float x, float y) {
        float[] point = {x, y};
        for (int item = 0; item < seen.lines.size(); item++) {
            boolean covers = line(item, 0) != 0;
            for (int axis = 0; axis < 2 && covers; axis++) {
                float from = at(axis, line(item, axis) - 1);
                covers = from <= point[axis] && point[axis] < from + extent(item, axis);
            }
            if (covers) {
                return item;
            }
        }
        return -1;
    }

    float free(int axis) {
        return axis < 0 || axis > 1 ? 0f : seen.free[axis];
    }
}
