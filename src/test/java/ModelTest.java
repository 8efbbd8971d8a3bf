import java.util.ArrayList;
import java.util.List;

/** Runs of calls made by a fixed sequence of numbers, against the plain reading of the document in Model. */
public final class ModelTest {
    private static final String[] PLAIN = {"auto", "min", "max"};
    private static final String SIGNS = "0123456789.(), afimnorutxpe";
    private static final float[] EDGES = {0f, Float.MIN_VALUE, 7 * Float.MIN_VALUE, Float.MIN_NORMAL, 0.001f, 1f, Math.nextUp(1f),
        4095f, Math.nextDown(4096f), 4096f};
    private long state = 20261116L;

    public static void main(String[] args) {
        ModelTest test = new ModelTest();
        for (int run = 0; run < 3000; run++) {
            test.texts();
        }
        for (int run = 0; run < 20000; run++) {
            test.layouts(run, run % 4 == 3);
        }
        Check.finish();
    }

    private int below(int n) {
        state = state * 6364136223846793005L + 1442695040888963407L;
        return (int) ((state >>> 33) % n);
    }

    private String number() {
        String whole = Integer.toString(below(below(3) == 0 ? 2000 : 60));
        int places = below(4);
        if (places == 0 || below(2) == 0) {
            return whole;
        }
        return whole + "." + ("" + (1000 + below(1000))).substring(4 - places);
    }

    private String shareNumber() {
        return below(2) == 0 ? "0." + (1 + below(9)) : below(3) == 0 ? number() : Integer.toString(below(4));
    }

    private String plain() {
        int which = below(5);
        return which < 3 ? PLAIN[which] : number();
    }

    private String track() {
        switch (below(6)) {
            case 0:
                return shareNumber() + "fr";
            case 1:
                return "fit(" + number() + ")";
            case 2:
                return "minmax(" + plain() + "," + plain() + ")";
            case 3:
                return below(2) == 0 ? plain() : "minmax(" + plain() + "," + shareNumber() + "fr)";
            default:
                return plain();
        }
    }

    private String tracks(int most) {
        StringBuilder text = new StringBuilder(track());
        for (int i = below(most); i > 0; i--) {
            text.append(' ').append(track());
        }
        return text.toString();
    }

    private String template() {
        StringBuilder text = new StringBuilder();
        for (int i = below(4); i >= 0; i--) {
            if (text.length() > 0) {
                text.append(' ');
            }
            if (below(4) == 0) {
                text.append("repeat(").append(1 + below(below(3) == 0 ? 9 : 3)).append(',').append(tracks(3)).append(')');
            } else {
                text.append(tracks(3));
            }
        }
        return text.toString();
    }

    private String spoilt(String text) {
        StringBuilder s = new StringBuilder(text);
        for (int i = below(3); i > 0 && s.length() > 0; i--) {
            int where = below(s.length());
            char sign = SIGNS.charAt(below(SIGNS.length()));
            switch (below(4)) {
                case 0:
                    s.deleteCharAt(where);
                    break;
                case 1:
                    s.insert(where, sign);
                    break;
                case 2:
                    s.setCharAt(where, sign);
                    break;
                default:
                    s.setLength(where);
                    break;
            }
        }
        return s.length() > 40 ? s.substring(0, 40) : s.toString();
    }

    private void texts() {
        String text = spoilt(below(8) == 0 ? "1 1 1 1 1 1 1 1 1 " + template() : template());
        TrackGrid grid = new TrackGrid();
        int tracks = -1;
        Check.write(grid, text);
        try {
            tracks = grid.template(0);
        } catch (IllegalArgumentException e) {
            tracks = -1;
        }
        Check.is("tracks of " + text, tracks, Model.isTemplate(text) ? Model.tracksOf(text).size() : -1);
        Check.is("place of " + text, grid.place(), Model.isTemplate(text) ? -1 : Model.placeOf(text));
    }

    private float measure(boolean edges) {
        if (edges && below(2) == 0) {
            return EDGES[below(EDGES.length)];
        }
        switch (below(4)) {
            case 0:
                return below(100);
            case 1:
                return below(40960) / 10f;
            case 2:
                return below(1000) / 7f;
            default:
                return 0f;
        }
    }

    private float space(boolean edges) {
        if (edges) {
            return measure(true);
        }
        return below(4) == 0 ? 0f : below(4096) / (1f + below(4));
    }

    private void layouts(int run, boolean edges) {
        TrackGrid grid = new TrackGrid();
        Model model = new Model();
        for (int times = 1 + below(3); times > 0; times--) {
            for (int axis = 0; axis < 2; axis++) {
                tellTemplate(grid, model, axis);
                float space = space(edges);
                float gap = edges && below(3) == 0 ? measure(true) : measure(false) / 50f;
                int how = below(4);
                Check.is("room", grid.room(axis, space, gap), true);
                Check.is("put", grid.put(axis, how), true);
                model.space[axis] = space;
                model.gap[axis] = gap;
                model.how[axis] = how;
            }
            for (int i = below(8); i > 0 && model.items.size() < 10; i--) {
                tellItem(grid, model, edges);
            }
            model.columns = below(2) == 0;
            model.packed = below(2) == 0;
            grid.flow(model.columns, model.packed);
            Check.is("run " + run + " layout", grid.layout(), model.layout());
            compare("run " + run + " ", grid, model);
        }
    }

    private void tellTemplate(TrackGrid grid, Model model, int axis) {
        String text = template();
        if (below(3) == 0 || text.length() > 40 || !Model.isTemplate(text)) {
            return;
        }
        model.template.set(axis, Model.tracksOf(text));
        Check.template(grid, axis, text, model.template.get(axis).size());
    }

    private void tellItem(TrackGrid grid, Model model, boolean edges) {
        int[] start = new int[2];
        int[] span = new int[2];
        int reach = below(5) == 0 ? 12 : 5;
        for (int axis = 0; axis < 2; axis++) {
            span[axis] = below(2) == 0 ? 1 : 1 + below(4);
            start[axis] = below(2) == 0 ? 0 : 1 + below(reach);
            start[axis] = Math.min(start[axis], 13 - span[axis]);
        }
        Model.Item item = new Model.Item(start, span);
        int number = grid.item(start[0], span[0], start[1], span[1]);
        model.items.add(item);
        for (int axis = 0; axis < 2; axis++) {
            item.least[axis] = measure(edges);
            item.most[axis] = Math.min(4096f, item.least[axis] + measure(edges));
            Check.is("need", grid.need(number, axis, item.least[axis], item.most[axis]), true);
        }
    }

    private void compare(String run, TrackGrid grid, Model model) {
        for (int axis = 0; axis < 2; axis++) {
            List<Model.Track> tracks = model.tracks.get(axis);
            Check.is(run + "tracks", grid.tracks(axis), tracks.size());
            Check.isFloat(run + "free", grid.free(axis), model.free[axis]);
            for (int t = 0; t < tracks.size() && t < grid.tracks(axis); t++) {
                Check.isFloat(run + "size", grid.size(axis, t), tracks.get(t).base);
                Check.isFloat(run + "at", grid.at(axis, t), tracks.get(t).position);
            }
            for (int i = 0; i < model.items.size(); i++) {
                Model.Item item = model.items.get(i);
                Check.is(run + "line", grid.line(i, axis), item.line[axis]);
                if (item.line[axis] != 0 && grid.line(i, axis) != 0) {
                    Check.isFloat(run + "extent", grid.extent(i, axis), model.extent(item, axis));
                }
            }
        }
        List<Float> points = new ArrayList<>();
        for (Model.Item item : model.items) {
            if (item.line[0] != 0 && below(3) == 0) {
                for (int axis = 0; axis < 2; axis++) {
                    float from = model.tracks.get(axis).get(item.line[axis] - 1).position;
                    points.add(below(2) == 0 ? from : from + model.extent(item, axis) * below(9) / 8f);
                }
            }
        }
        for (int p = 0; p + 1 < points.size(); p += 2) {
            Check.is(run + "hit", grid.hit(points.get(p), points.get(p + 1)), model.hit(points.get(p), points.get(p + 1)));
        }
    }
}
