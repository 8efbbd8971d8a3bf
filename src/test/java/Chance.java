/** A fixed sequence of numbers, and the texts, lengths and stands that runs of calls are made of with it. */
final class Chance {
    private static final String[] PLAIN = {"auto", "min", "max"};
    private static final String SIGNS = "0123456789.(), afimnorutxpe";
    private static final float[] EDGES = {0f, Float.MIN_VALUE, 7 * Float.MIN_VALUE, Float.MIN_NORMAL, 0.001f, 1f, Math.nextUp(1f),
        4095f, Math.nextDown(4096f), 4096f};
    private long state;

    Chance(long seed) {
        state = seed;
    }

    int below(int n) {
        state = state * 6364136223846793005L + 1442695040888963407L;
        return (int) ((state >>> 33) % n);
    }

    private String number() {
        String whole = Integer.toString(below(below(3) == 0 ? 2000 : 60));
        int places = below(4);
        if (places == 0 || below(2) == 0) {
            return whole;
        }
        return whole + "." + ("" + (1000 + below(1000))).substring(4 - places);
    }

    private String shareNumber() {
        return below(2) == 0 ? "0." + (1 + below(9)) : below(3) == 0 ? number() : Integer.toString(below(4));
    }

    private String plain() {
        int which = below(5);
        return which < 3 ? PLAIN[which] : number();
    }

    private String track() {
        switch (below(6)) {
            case 0:
                return shareNumber() + "fr";
            case 1:
                return "fit(" + number() + ")";
            case 2:
                return "minmax(" + plain() + "," + plain() + ")";
            case 3:
                return below(2) == 0 ? plain() : "minmax(" + plain() + "," + shareNumber() + "fr)";
            default:
                return plain();
        }
    }

    private String tracks(int most) {
        StringBuilder text = new StringBuilder(track());
        for (int i = below(most); i > 0; i--) {
            text.append(' ').append(track());
        }
        return text.toString();
    }

    /** A template, but perhaps with more than 12 tracks or longer than what can be written. */
    String template() {
        StringBuilder text = new StringBuilder();
        for (int i = below(4); i >= 0; i--) {
            if (text.length() > 0) {
                text.append(' ');
            }
            if (below(4) == 0) {
                text.append("repeat(").append(1 + below(below(3) == 0 ? 9 : 3)).append(',').append(tracks(3)).append(')');
            } else {
                text.append(tracks(3));
            }
        }
        return text.toString();
    }

    /** The text with up to two changes, and short enough to be written. */
    String spoilt(String text) {
        StringBuilder s = new StringBuilder(text);
        for (int i = below(3); i > 0 && s.length() > 0; i--) {
            int where = below(s.length());
            char sign = SIGNS.charAt(below(SIGNS.length()));
            switch (below(4)) {
                case 0:
                    s.deleteCharAt(where);
                    break;
                case 1:
                    s.insert(where, sign);
                    break;
                case 2:
                    s.setCharAt(where, sign);
                    break;
                default:
                    s.setLength(where);
                    break;
            }
        }
        return s.length() > 40 ? s.substring(0, 40) : s.toString();
    }

    /** A float of 0f .. 4096f. */
    float measure(boolean edges) {
        if (edges && below(2) == 0) {
            return EDGES[below(EDGES.length)];
        }
        switch (below(4)) {
            case 0:
                return below(100);
            case 1:
                return below(40960) / 10f;
            case 2:
                return below(1000) / 7f;
            default:
                return 0f;
        }
    }
}
