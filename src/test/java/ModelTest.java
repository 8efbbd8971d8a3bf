import java.util.ArrayList;
import java.util.List;

/** Runs of calls made by a fixed sequence of numbers, against the plain reading of the document in Model. */
public final class ModelTest {
    private final Chance chance = new Chance(20261116L);

    public static void main(String[] args) {
        ModelTest test = new ModelTest();
        for (int run = 0; run < 3000; run++) {
            test.texts();
        }
        for (int run = 0; run < 20000; run++) {
            test.layouts(run, run % 4 == 3);
        }
        Check.finish();
    }

    private void texts() {
        String text = chance.spoilt(chance.below(8) == 0 ? "1 1 1 1 1 1 1 1 1 " + chance.template() : chance.template());
        TrackGrid grid = new TrackGrid();
        int tracks = -1;
        Check.write(grid, text);
        try {
            tracks = grid.template(0);
        } catch (IllegalArgumentException e) {
            tracks = -1;
        }
        Check.is("tracks of " + text, tracks, Model.isTemplate(text) ? Model.tracksOf(text).size() : -1);
        Check.is("place of " + text, grid.place(), Model.isTemplate(text) ? -1 : Model.placeOf(text));
    }

    private float space(boolean edges) {
        if (edges) {
            return chance.measure(true);
        }
        return chance.below(4) == 0 ? 0f : chance.below(4096) / (1f + chance.below(4));
    }

    private void layouts(int run, boolean edges) {
        TrackGrid grid = new TrackGrid();
        Model model = new Model();
        for (int times = 1 + chance.below(3); times > 0; times--) {
            for (int axis = 0; axis < 2; axis++) {
                tellTemplate(grid, model, axis);
                float space = space(edges);
                float gap = edges && chance.below(3) == 0 ? chance.measure(true) : chance.measure(false) / 50f;
                int how = chance.below(4);
                Check.is("room", grid.room(axis, space, gap), true);
                Check.is("put", grid.put(axis, how), true);
                model.space[axis] = space;
                model.gap[axis] = gap;
                model.how[axis] = how;
            }
            for (int i = chance.below(8); i > 0 && model.items.size() < 10; i--) {
                tellItem(grid, model, edges);
            }
            model.columns = chance.below(2) == 0;
            model.packed = chance.below(2) == 0;
            grid.flow(model.columns, model.packed);
            Check.is("run " + run + " layout", grid.layout(), model.layout());
            compare("run " + run + " ", grid, model);
        }
    }

    private void tellTemplate(TrackGrid grid, Model model, int axis) {
        String text = chance.template();
        if (chance.below(3) == 0 || text.length() > 40 || !Model.isTemplate(text)) {
            return;
        }
        model.template.set(axis, Model.tracksOf(text));
        Check.template(grid, axis, text, model.template.get(axis).size());
    }

    private void tellItem(TrackGrid grid, Model model, boolean edges) {
        int[] start = new int[2];
        int[] span = new int[2];
        int reach = chance.below(5) == 0 ? 12 : 5;
        for (int axis = 0; axis < 2; axis++) {
            span[axis] = chance.below(2) == 0 ? 1 : 1 + chance.below(4);
            start[axis] = chance.below(2) == 0 ? 0 : 1 + chance.below(reach);
            start[axis] = Math.min(start[axis], 13 - span[axis]);
        }
        Model.Item item = new Model.Item(start, span);
        int number = grid.item(start[0], span[0], start[1], span[1]);
        model.items.add(item);
        for (int axis = 0; axis < 2; axis++) {
            item.least[axis] = chance.measure(edges);
            item.most[axis] = Math.min(4096f, item.least[axis] + chance.measure(edges));
            Check.is("need", grid.need(number, axis, item.least[axis], item.most[axis]), true);
        }
    }

    private void compare(String run, TrackGrid grid, Model model) {
        for (int axis = 0; axis < 2; axis++) {
            List<Model.Track> tracks = model.tracks.get(axis);
            int count = grid.tracks(axis);
            Check.is(run + "tracks", count, tracks.size());
            Check.isFloat(run + "free", grid.free(axis), model.free[axis]);
            for (int t = 0; t < tracks.size() && t < count; t++) {
                Check.isFloat(run + "size", grid.size(axis, t), tracks.get(t).base);
                Check.isFloat(run + "at", grid.at(axis, t), tracks.get(t).position);
            }
            for (int i = 0; i < model.items.size(); i++) {
                Model.Item item = model.items.get(i);
                int line = grid.line(i, axis);
                Check.is(run + "line", line, item.line[axis]);
                if (item.line[axis] != 0 && line != 0) {
                    Check.isFloat(run + "extent", grid.extent(i, axis), model.extent(item, axis));
                }
            }
        }
        List<Float> points = new ArrayList<>();
        for (Model.Item item : model.items) {
            if (item.line[0] != 0 && chance.below(3) == 0) {
                for (int axis = 0; axis < 2; axis++) {
                    float from = model.tracks.get(axis).get(item.line[axis] - 1).position;
                    points.add(chance.below(2) == 0 ? from : from + model.extent(item, axis) * chance.below(9) / 8f);
                }
            }
        }
        for (int p = 0; p + 1 < points.size(); p += 2) {
            Check.is(run + "hit", grid.hit(points.get(p), points.get(p + 1)), model.hit(points.get(p), points.get(p + 1)));
        }
    }
}
