/** Promises 2 to 4: write, template and place. */
public final class TemplateTest {
    public static void main(String[] args) {
        writing();
        counts();
        numbers();
        repeats();
        places();
        placesOfTooMany();
        stays();
        Check.finish();
    }

    private static void writing() {
        TrackGrid grid = new TrackGrid();
        for (int c = 0; c < 32; c++) {
            Check.is("write " + c, grid.write((char) c), false);
        }
        for (int c = 127; c < 400; c++) {
            Check.is("write " + c, grid.write((char) c), false);
        }
        Check.is("write 65535", grid.write((char) 65535), false);
        Check.is("nothing was written", grid.template(0), 0);
        for (int c = 32; c < 72; c++) {
            Check.is("write " + c, grid.write((char) c), true);
        }
        Check.is("the 41st", grid.write('1'), false);
        Check.refused(grid, 0, "", 0);
        for (int c = 72; c < 127; c++) {
            Check.is("write " + c, new TrackGrid().write((char) c), true);
        }
        TrackGrid full = new TrackGrid();
        Check.template(full, 0, "1234.123 1234.123 1234.123 1234.123 12.5", 5);
        Check.template(full, 0, "7", 1);
    }

    private static void counts() {
        TrackGrid grid = new TrackGrid();
        Check.template(grid, 0, "", 0);
        Check.template(grid, 1, "0", 1);
        Check.template(grid, 0, "auto min max 2fr fit(3) 4", 6);
        Check.template(grid, 0, "minmax(1,2fr) minmax(min,max)", 2);
        Check.template(grid, 0, "minmax(auto,1.5) minmax(max,min)", 2);
        Check.template(grid, 0, "minmax(0.5,auto) minmax(1,0.5fr)", 2);
        Check.template(grid, 0, "repeat(9,1) repeat(1,2 min) 3", 12);
        Check.template(grid, 0, "repeat(4,1 minmax(min,2fr) fit(0.25))", 12);
        Check.template(grid, 0, "1 1 1 1 1 1 1 1 1 1 1 1", 12);
        Check.template(grid, 0, "1 1 1 1 1 1 1 1 1 1 1 repeat(1,1)", 12);
        Check.template(grid, 0, "repeat(6,1 2)", 12);
    }

    /** The float of a number, seen as the size of a track. */
    private static void numbers() {
        number("0", 0f);
        number("9999", 9999f);
        number("0007", 7f);
        number("3.5", 3f + 5f / 10f);
        number("0.1", 0f + 1f / 10f);
        number("0.10", 0f + 10f / 100f);
        number("0.07", 0f + 7f / 100f);
        number("1234.567", 1234f + 567f / 1000f);
        number("9999.999", 9999f + 999f / 1000f);
        number("1.003", 1f + 3f / 1000f);
        number("0.999", 0f + 999f / 1000f);
        number("17.33", 17f + 33f / 100f);
        number("0000.000", 0f);
    }

    private static void repeats() {
        TrackGrid grid = new TrackGrid();
        Check.template(grid, 0, "7 repeat(2,1 minmax(2,3)) 8 repeat(3,9)", 9);
        grid.layout();
        Check.sizes(grid, 0, 7f, 1f, 2f, 1f, 2f, 8f, 9f, 9f, 9f);
    }

    private static void number(String text, float due) {
        TrackGrid grid = new TrackGrid();
        Check.template(grid, 0, text, 1);
        grid.layout();
        Check.sizes(grid, 0, due);
    }

    private static void places() {
        String[] texts = {
            " ", "x", "1 ", "1  2", " 1", "12345", "1.", "1. ", "1.x", ".5", "1.2345", "1.2.3", "1f", "1fx",
            "1fr2", "1frr", "fr", "f", "fit", "fit(", "fit()", "fit(1", "fit(1fr)", "fit(auto)", "fit(1.)",
            "fit(12345)", "a", "aut", "auto1", "autofr", "m", "mx", "mi", "mim", "minfr", "minm", "minmx",
            "minmax", "minmax1", "maxm", "maxmin", "minmax(", "minmax()", "minmax(1)", "minmax(1fr,2)",
            "minmax(fit(1),2)", "minmax(min", "minmax(minm", "minmax(1,", "minmax(1,)", "minmax(1,2",
            "minmax(1,2f)", "minmax(1,2fr", "minmax(1,fit(2))", "minmax(1,auto", "minmax(1,minmax(", "minmax(1, 2)",
            "minmax(1,2)3", "r", "r5", "repeat5", "repeat(2 5)", "repeat", "repeat(", "repeat(0,1)", "repeat(a", "repeat(2", "repeat(22,1)",
            "repeat(2)", "repeat(2,", "repeat(2,)", "repeat(2,1", "repeat(2,1 )", "repeat(2,1  2)",
            "repeat(2, 1)", "repeat(2,repeat(2,1))", "repeat(2,1 repeat(2,1))", "repeat(2,1)2", "repeat(2,1))",
            "1)", "1,2", "repeat(1,1,2)", "AUTO", "Min", "1 2 x", "-1", "1-", "minmax(1,2) "
        };
        int[] due = {
            0, 0, 2, 2, 0, 4, 2, 2, 2, 0, 5, 3, 2, 2,
            3, 3, 1, 1, 3, 4, 4, 5, 5, 4, 6,
            8, 1, 3, 4, 4, 1, 1, 2, 2, 3, 4, 4,
            6, 6, 3, 3, 7, 7, 8, 8,
            7, 10, 10, 9, 9, 10,
            11, 12, 9, 13, 12, 9,
            11, 1, 1, 6, 8, 6, 7, 7, 7, 8, 8,
            8, 9, 9, 10, 11, 11,
            9, 9, 11, 11, 11,
            1, 1, 10, 0, 0, 4, 0, 1, 12
        };
        Check.is("as many places as texts", texts.length, due.length);
        for (int i = 0; i < texts.length && i < due.length; i++) {
            Check.refused(new TrackGrid(), i % 2, texts[i], due[i]);
        }
    }

    private static void placesOfTooMany() {
        TrackGrid grid = new TrackGrid();
        Check.refused(grid, 0, "1 1 1 1 1 1 1 1 1 1 1 1 ", 23);
        Check.refused(grid, 0, "repeat(9,1) 1 1 1 1", 17);
        Check.refused(grid, 0, "1 1 1 1 repeat(9,1)", 15);
        Check.refused(grid, 0, "1 1 1 repeat(9,1 1)", 16);
        Check.refused(grid, 0, "repeat(7,1 1)", 10);
        Check.refused(grid, 0, "repeat(6,1 1 1)", 12);
        Check.refused(grid, 0, "repeat(6,1 1) 1", 13);
        Check.refused(grid, 0, "repeat(4,1 1 1 1)", 14);
        Check.refused(grid, 0, "repeat(9,1) repeat(4,1)", 19);
        Check.refused(grid, 0, "repeat(9,1) repeat(3,1) repeat(1,1)", 23);
        Check.refused(grid, 0, "1 1 1 1 1 1 1 1 1 1 1 repeat(2,1)", 29);
        Check.refused(grid, 0, "1 1 1 1 1 1 1 1 1 1 1 repeat(1,1 1)", 32);
        // a later track is no excuse for an earlier mistake
        Check.refused(grid, 0, "1 y 1 1 1 1 1 1 1 1 1 1 1 1", 2);
    }

    private static void stays() {
        TrackGrid grid = new TrackGrid();
        Check.template(grid, 0, "5 6", 2);
        Check.write(grid, "7 8 9");
        Check.throwing("template(2)", IllegalArgumentException.class, () -> grid.template(2));
        Check.throwing("template(-1)", IllegalArgumentException.class, () -> grid.template(-1));
        Check.is("no such axis is no refusal", grid.place(), -1);
        Check.is("the text stays", grid.template(1), 3);
        Check.refused(grid, 0, "1 z", 2);
        grid.layout();
        Check.sizes(grid, 0, 5f, 6f);
        Check.sizes(grid, 1, 7f, 8f, 9f);
        Check.write(grid, "q");
        Check.throwing("template(3)", IllegalArgumentException.class, () -> grid.template(3));
        Check.is("place of the one refused latest", grid.place(), 2);
        Check.throwing("template(1)", IllegalArgumentException.class, () -> grid.template(1));
        Check.is("place of q", grid.place(), 0);
        Check.is("the text is empty behind a refusal", grid.template(0), 0);
        Check.is("place, whatever was taken since", grid.place(), 0);
        grid.layout();
        Check.sizes(grid, 0, 0f);
        Check.sizes(grid, 1, 7f, 8f, 9f);
    }
}
