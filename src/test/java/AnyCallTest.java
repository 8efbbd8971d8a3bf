import java.util.NoSuchElementException;

/** Calls with any arguments in any state: nothing is thrown that the document does not tell, no answer is NaN. */
public final class AnyCallTest {
    private static final int[] INTS = {0, 1, 2, 3, 4, 5, 9, 10, 11, 12, 13, -1, Integer.MAX_VALUE, Integer.MIN_VALUE};
    private static final float[] FLOATS = {0f, -0f, 1f, 0.1f, 7.3f, 100f, 4096f, 5000f, -1f, Float.MIN_VALUE,
        Float.MAX_VALUE, Float.NaN, Float.POSITIVE_INFINITY, Float.NEGATIVE_INFINITY};
    private static final String[] TEXTS = {"1fr", "auto", " ", "min", "max", "minmax(", "0", ",", "0.5fr", ")", "fit(", "12.25",
        "repeat(3,", "1fr auto", "minmax(3,1fr)", "repeat(4,auto 1fr)"};
    private long state = 7L;

    public static void main(String[] args) {
        AnyCallTest test = new AnyCallTest();
        for (int run = 0; run < 3000; run++) {
            test.run();
        }
        Check.finish();
    }

    private int below(int n) {
        state = state * 6364136223846793005L + 1442695040888963407L;
        return (int) ((state >>> 33) % n);
    }

    private int any() {
        return INTS[below(2) == 0 ? below(5) : below(INTS.length)];
    }

    private float anyFloat() {
        return below(2) == 0 ? below(50000) / 100f : FLOATS[below(FLOATS.length)];
    }

    private void run() {
        TrackGrid grid = new TrackGrid();
        for (int calls = 0; calls < 200; calls++) {
            String told = "nothing";
            int which = below(15);
            try {
                call(grid, which);
            } catch (RuntimeException e) {
                told = e.getClass().getSimpleName();
            }
            Check.is("call " + which + " throws " + told, mayThrow(which, told), true);
        }
    }

    private static boolean mayThrow(int which, String told) {
        boolean argument = told.equals(IllegalArgumentException.class.getSimpleName());
        boolean full = told.equals(IllegalStateException.class.getSimpleName());
        boolean none = told.equals(NoSuchElementException.class.getSimpleName());
        return told.equals("nothing") || which == 1 && argument || which == 2 && (argument || full) || which >= 12 && none;
    }

    private void call(TrackGrid grid, int which) {
        switch (which) {
            case 0:
                String text = TEXTS[below(TEXTS.length)];
                for (int i = 0; i < text.length(); i++) {
                    grid.write(text.charAt(i));
                }
                break;
            case 1:
                int count = grid.template(any());
                Check.is("tracks", count >= 0 && count <= 12, true);
                break;
            case 2:
                int number = grid.item(any(), any(), any(), any());
                Check.is("item", number >= 0 && number < 10, true);
                break;
            case 3:
                grid.need(any(), any(), anyFloat(), anyFloat());
                break;
            case 4:
                grid.flow(below(2) == 0, below(2) == 0);
                break;
            case 5:
                grid.room(any(), anyFloat(), anyFloat());
                break;
            case 6:
                grid.put(any(), any());
                break;
            case 7:
                Check.is("layout", grid.layout() >= 0, true);
                break;
            case 8:
                Check.is("tracks", grid.tracks(any()) <= 12, true);
                break;
            case 9:
                Check.is("line", grid.line(any(), any()) <= 12, true);
                break;
            case 10:
                Check.is("hit", grid.hit(anyFloat(), anyFloat()) < 10 && grid.place() <= 40, true);
                break;
            case 11:
                Check.is("free", Math.abs(grid.free(any())) <= Float.MAX_VALUE, true);
                break;
            case 12:
                Check.is("size", grid.size(any(), any()) >= 0f, true);
                break;
            case 13:
                Check.is("at", grid.at(any(), any()) >= 0f, true);
                break;
            default:
                Check.is("extent", grid.extent(any(), any()) >= 0f, true);
                break;
        }
    }
}
