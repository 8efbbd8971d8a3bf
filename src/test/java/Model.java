import java.util.ArrayList;
import java.util.Arrays;
import java.util.HashMap;
import java.util.HashSet;
import java.util.LinkedHashSet;
import java.util.List;
import java.util.Map;
import java.util.Set;
import java.util.regex.Matcher;
import java.util.regex.Pattern;

/** The document's terms, word by word and without care for speed; the tests compare the program with it. */
final class Model {
    private static final String NUMBER = "[0-9]{1,4}(?:\\.[0-9]{1,3})?";
    private static final String PLAIN = "(?:" + NUMBER + "|auto|min|max)";
    private static final String SHARE = NUMBER + "fr";
    private static final String MINMAX = "minmax\\((" + PLAIN + "),(" + SHARE + "|" + PLAIN + ")\\)";
    private static final String SIMPLE = "(?:" + MINMAX + "|fit\\((" + NUMBER + ")\\)|(" + SHARE + ")|(" + PLAIN + "))";
    private static final String LIST = SIMPLE + "(?: " + SIMPLE + ")*";
    private static final String REPEAT = "repeat\\(([1-9]),(" + LIST + ")\\)";
    private static final Pattern TEMPLATE =
            Pattern.compile("(?:(?:" + SIMPLE + "|" + REPEAT + ")(?: (?:" + SIMPLE + "|" + REPEAT + "))*)?");
    private static final Pattern SIMPLE_PATTERN = Pattern.compile(SIMPLE);
    private static final Set<String> ENDS = ends();

    static final class Track {
        final String low;
        final float lowNumber;
        final String high;
        final float highNumber;
        float base;
        float limit;
        boolean endless;
        float position;

        Track(String low, float lowNumber, String high, float highNumber) {
            this.low = low;
            this.lowNumber = lowNumber;
            this.high = high;
            this.highNumber = highNumber;
        }

        Track copy() {
            return new Track(low, lowNumber, high, highNumber);
        }

        boolean lowIs(String... kinds) {
            return Arrays.asList(kinds).contains(low);
        }

        boolean highIs(String... kinds) {
            return Arrays.asList(kinds).contains(high);
        }
    }

    static final class Item {
        final int[] start;
        final int[] span;
        final float[] least = new float[2];
        final float[] most = new float[2];
        int[] line = new int[2];

        Item(int[] start, int[] span) {
            this.start = start;
            this.span = span;
        }
    }

    final List<List<Track>> template = new ArrayList<>(List.of(List.of(), List.of()));
    final List<Item> items = new ArrayList<>();
    final float[] space = new float[2];
    final float[] gap = new float[2];
    final int[] how = new int[2];
    boolean columns;
    boolean packed;
    final List<List<Track>> tracks = new ArrayList<>(List.of(List.of(), List.of()));
    final float[] free = new float[2];
    private final Set<Integer> taken = new HashSet<>();
    private int count;

    // texts

    static boolean isTemplate(String text) {
        return TEMPLATE.matcher(text).matches() && tracksOf(text).size() <= 12;
    }

    static int placeOf(String text) {
        for (int k = 0; k < text.length(); k++) {
            if (!begins(text.substring(0, k + 1))) {
                return k;
            }
        }
        return text.length();
    }

    private static boolean begins(String start) {
        for (String end : ENDS) {
            if (isTemplate(start + end)) {
                return true;
            }
        }
        return false;
    }

    /** Ways in which a template may go on, so many that each that has begun can be ended by one. */
    private static Set<String> ends() {
        String[] whole = {"0", "0.0", "0fr", "auto", "min", "max", "fit(0)", "fit(0.0)", "minmax(0,0)", "minmax(0.0,0)",
            "minmax(0,0.0)", "minmax(auto,0)", "minmax(min,0)", "minmax(max,0)", "minmax(0,auto)", "minmax(0,min)",
            "minmax(0,max)", "minmax(0,0fr)", "repeat(1,0)"};
        Set<String> ends = new LinkedHashSet<>();
        for (String w : whole) {
            for (int i = 0; i <= w.length(); i++) {
                ends.add(w.substring(i));
                ends.add(w.substring(i) + ")");
            }
        }
        return ends;
    }

    static List<Track> tracksOf(String text) {
        List<Track> found = new ArrayList<>();
        Matcher m = Pattern.compile(REPEAT + "|" + SIMPLE).matcher(text);
        while (m.find()) {
            if (m.group(1) == null) {
                found.add(trackOf(m.group()));
                continue;
            }
            for (int i = 0; i < Integer.parseInt(m.group(1)); i++) {
                Matcher inner = SIMPLE_PATTERN.matcher(m.group(2));
                while (inner.find()) {
                    found.add(trackOf(inner.group()));
                }
            }
        }
        return found;
    }

    private static Track trackOf(String text) {
        if (text.startsWith("minmax(")) {
            String[] sides = text.substring(7, text.length() - 1).split(",");
            return new Track(kindOf(sides[0]), numberOf(sides[0]), kindOf(sides[1]), numberOf(sides[1]));
        }
        if (text.startsWith("fit(")) {
            return new Track("auto", 0f, "fit", numberOf(text.substring(4, text.length() - 1)));
        }
        if (text.endsWith("fr")) {
            return new Track("auto", 0f, "share", numberOf(text));
        }
        return new Track(kindOf(text), numberOf(text), kindOf(text), numberOf(text));
    }

    private static String kindOf(String side) {
        return side.endsWith("fr") ? "share" : Character.isDigit(side.charAt(0)) ? "length" : side;
    }

    private static float numberOf(String side) {
        if (!Character.isDigit(side.charAt(0))) {
            return 0f;
        }
        String[] parts = side.replace("fr", "").split("\\.");
        float number = (float) Integer.parseInt(parts[0]);
        if (parts.length == 1) {
            return number;
        }
        float[] divisors = {10f, 100f, 1000f};
        return number + (float) Integer.parseInt(parts[1]) / divisors[parts[1].length() - 1];
    }

    // placing

    int layout() {
        int main = columns ? 0 : 1;
        int other = 1 - main;
        taken.clear();
        count = Math.max(1, template.get(other).size());
        for (Item item : items) {
            item.line = new int[2];
            count = Math.max(count, item.start[other] > 0 ? item.start[other] + item.span[other] - 1 : item.span[other]);
        }
        for (Item item : items) {
            if (item.start[0] > 0 && item.start[1] > 0) {
                stand(item, main, item.start[main], item.start[other]);
            }
        }
        Map<Integer, Item> before = new HashMap<>();
        for (Item item : items) {
            if (item.start[main] > 0 && item.start[other] == 0) {
                Item last = packed ? null : before.get(item.start[main]);
                int from = last == null ? 1 : last.line[other] + last.span[other];
                for (int o = from; o <= 12 && item.line[0] == 0; o++) {
                    if (isFree(item, main, item.start[main], o)) {
                        stand(item, main, item.start[main], o);
                        before.put(item.start[main], item);
                    }
                }
            }
        }
        placeOthers(main, other);
        int placed = 0;
        for (Item item : items) {
            placed += item.line[0] > 0 ? 1 : 0;
        }
        for (int axis = 0; axis < 2; axis++) {
            List<Track> all = new ArrayList<>();
            for (Track t : template.get(axis)) {
                all.add(t.copy());
            }
            int reach = axis == other ? count : 0;
            for (Item item : items) {
                reach = item.line[axis] == 0 ? reach : Math.max(reach, item.line[axis] + item.span[axis] - 1);
            }
            while (all.size() < reach) {
                all.add(new Track("auto", 0f, "auto", 0f));
            }
            tracks.set(axis, all);
            sizes(axis);
        }
        return placed;
    }

    private void placeOthers(int main, int other) {
        int[] cursor = {1, 1};
        for (Item item : items) {
            if (item.start[main] > 0) {
                continue;
            }
            if (packed) {
                cursor = new int[] {1, 1};
            }
            int[] old = cursor.clone();
            boolean told = item.start[other] > 0;
            if (told) {
                if (item.start[other] < cursor[1]) {
                    cursor[0]++;
                }
                cursor[1] = item.start[other];
            }
            while (cursor[0] <= 12 && !isFree(item, main, cursor[0], cursor[1])) {
                if (told || cursor[1] >= 12) {
                    cursor[0]++;
                    cursor[1] = told ? cursor[1] : 1;
                } else {
                    cursor[1]++;
                }
            }
            if (cursor[0] <= 12) {
                stand(item, main, cursor[0], cursor[1]);
            } else {
                cursor = old;
            }
        }
    }

    private boolean isFree(Item item, int main, int m, int o) {
        if (m + item.span[main] - 1 > 12 || o + item.span[1 - main] - 1 > count) {
            return false;
        }
        for (int i = 0; i < item.span[main]; i++) {
            for (int j = 0; j < item.span[1 - main]; j++) {
                if (taken.contains((m + i) * 100 + o + j)) {
                    return false;
                }
            }
        }
        return true;
    }

    private void stand(Item item, int main, int m, int o) {
        item.line[main] = m;
        item.line[1 - main] = o;
        for (int i = 0; i < item.span[main]; i++) {
            for (int j = 0; j < item.span[1 - main]; j++) {
                taken.add((m + i) * 100 + o + j);
            }
        }
    }

    // sizes

    private void sizes(int axis) {
        List<Track> all = tracks.get(axis);
        for (Track t : all) {
            t.base = t.lowIs("length") ? t.lowNumber : 0f;
            t.endless = !t.highIs("length", "share");
            t.limit = t.highIs("length") ? t.highNumber : t.base;
            raise(t);
        }
        for (Item item : items) {
            if (item.line[axis] > 0 && item.span[axis] == 1) {
                single(all.get(item.line[axis] - 1), item.least[axis], item.most[axis]);
            }
        }
        for (int span = 2; span <= 4; span++) {
            for (Item item : items) {
                if (item.line[axis] > 0 && item.span[axis] == span) {
                    least(all.subList(item.line[axis] - 1, item.line[axis] - 1 + span), item.least[axis], gap[axis]);
                }
            }
        }
        for (int span = 2; span <= 4; span++) {
            for (Item item : items) {
                if (item.line[axis] > 0 && item.span[axis] == span) {
                    most(all.subList(item.line[axis] - 1, item.line[axis] - 1 + span), item.most[axis], gap[axis]);
                }
            }
        }
        for (Track t : all) {
            if (t.endless) {
                t.endless = false;
                t.limit = t.base;
            }
        }
        grow(axis, all);
        shares(axis, all);
        stretchAndStand(axis, all);
    }

    private static void raise(Track t) {
        if (!t.endless && t.limit < t.base) {
            t.limit = t.base;
        }
    }

    private static void single(Track t, float least, float most) {
        if (t.lowIs("min", "auto")) {
            t.base = Math.max(t.base, least);
        }
        if (t.lowIs("max")) {
            t.base = Math.max(t.base, most);
        }
        if (t.highIs("min", "max", "auto", "fit")) {
            float limit = Math.max(t.endless ? 0f : t.limit, t.highIs("min") ? least : most);
            t.limit = t.highIs("fit") && limit > t.highNumber ? t.highNumber : limit;
            t.endless = false;
        }
        raise(t);
    }

    private static void least(List<Track> span, float x, float gap) {
        List<Track> needy = new ArrayList<>();
        float rest = x;
        for (Track t : span) {
            if (t.lowIs("min", "max", "auto") && !t.highIs("share")) {
                needy.add(t);
            }
            rest -= t.base;
        }
        for (int i = 1; i < span.size(); i++) {
            rest -= gap;
        }
        for (Track t : needy) {
            if (rest > 0f) {
                t.base += rest / (float) needy.size();
            }
        }
        for (Track t : span) {
            raise(t);
        }
    }

    private static void most(List<Track> span, float x, float gap) {
        List<Track> wide = new ArrayList<>();
        for (Track t : span) {
            if (t.highIs("max", "auto", "fit")) {
                wide.add(t);
                t.limit = t.endless ? t.base : t.limit;
                t.endless = false;
            }
        }
        float rest = x;
        for (Track t : span) {
            rest -= t.endless ? t.base : t.limit;
        }
        for (int i = 1; i < span.size(); i++) {
            rest -= gap;
        }
        for (Track t : wide) {
            if (rest > 0f) {
                t.limit += rest / (float) wide.size();
            }
        }
    }

    private float freeOf(int axis, List<Track> all) {
        float rest = space[axis];
        for (Track t : all) {
            rest -= t.base;
        }
        for (int i = 1; i < all.size(); i++) {
            rest -= gap[axis];
        }
        return rest;
    }

    private void grow(int axis, List<Track> all) {
        float rest = freeOf(axis, all);
        for (int times = 0; times < 16; times++) {
            List<Track> such = new ArrayList<>(all);
            such.removeIf(t -> !(t.base < t.limit));
            if (!(rest > 0f) || such.isEmpty()) {
                return;
            }
            float part = rest / (float) such.size();
            List<Float> got = new ArrayList<>();
            for (Track t : such) {
                float room = t.limit - t.base;
                got.add(part < room ? part : room);
                t.base = part < room ? t.base + part : t.limit;
            }
            for (float g : got) {
                rest -= g;
            }
        }
    }

    private void shares(int axis, List<Track> all) {
        List<Track> open = new ArrayList<>();
        float left = space[axis];
        for (int i = 1; i < all.size(); i++) {
            left -= gap[axis];
        }
        for (Track t : all) {
            if (t.highIs("share")) {
                open.add(t);
            } else {
                left -= t.base;
            }
        }
        float one = one(left, open);
        while (true) {
            List<Track> aside = new ArrayList<>();
            for (Track t : open) {
                if (t.base > t.highNumber * one) {
                    aside.add(t);
                }
            }
            if (aside.isEmpty()) {
                break;
            }
            for (Track t : aside) {
                left -= t.base;
            }
            open.removeAll(aside);
            one = one(left, open);
        }
        for (Track t : open) {
            t.base = t.highNumber * one;
        }
    }

    private static float one(float left, List<Track> open) {
        float sum = 0f;
        for (Track t : open) {
            sum += t.highNumber;
        }
        return left > 0f ? left / Math.max(sum, 1f) : 0f;
    }

    private void stretchAndStand(int axis, List<Track> all) {
        free[axis] = freeOf(axis, all);
        List<Track> autos = new ArrayList<>(all);
        autos.removeIf(t -> !t.highIs("auto"));
        if (free[axis] > 0f && how[axis] == 3) {
            for (Track t : autos) {
                t.base += free[axis] / (float) autos.size();
            }
            free[axis] = freeOf(axis, all);
        }
        float position = 0f;
        if (free[axis] > 0f) {
            position = how[axis] == 1 ? free[axis] / 2f : how[axis] == 2 ? free[axis] : 0f;
        }
        for (Track t : all) {
            t.position = position;
            position = position + t.base + gap[axis];
        }
    }

    // answers

    float extent(Item item, int axis) {
        float sum = 0f;
        for (int i = 0; i < item.span[axis]; i++) {
            sum += tracks.get(axis).get(item.line[axis] - 1 + i).base;
        }
        for (int i = 1; i < item.span[axis]; i++) {
            sum += gap[axis];
        }
        return sum;
    }

    int hit(float x, float y) {
        float[] point = {x, y};
        for (int i = 0; i < items.size(); i++) {
            Item item = items.get(i);
            boolean covers = item.line[0] > 0;
            for (int axis = 0; axis < 2 && covers; axis++) {
                float from = tracks.get(axis).get(item.line[axis] - 1).position;
                covers = from <= point[axis] && point[axis] < from + extent(item, axis);
            }
            if (covers) {
                return i;
            }
        }
        return -1;
    }
}
