/** Promises 2 to 4 and TEMPLATES: each sentence that names a bound, at it and just beyond it. */
public final class TextBoundsTest {
    private static final String DIGITS = "0123456789";
    private static final String FORTY = "1234.123 1234.123 1234.123 1234.123 12.5";

    public static void main(String[] args) {
        Check.sentence("Appends a character (32 .. 126)", TextBoundsTest::characters);
        Check.sentence("false when there are 40", TextBoundsTest::forty);
        Check.sentence("false when .. it is none such", TextBoundsTest::noneSuchIsNotAppended);
        Check.sentence("the empty text has none", TextBoundsTest::emptyText);
        Check.sentence("with single blanks between", TextBoundsTest::singleBlanks);
        Check.sentence("at most 40 characters can be written, but that counts for nothing here", TextBoundsTest::longerThanForty);
        Check.sentence("A NUMBER is one to four digits", TextBoundsTest::digitsBefore);
        Check.sentence("perhaps . and one to three digits behind", TextBoundsTest::digitsBehind);
        Check.sentence("divided by 10f, 100f or 1000f, added", TextBoundsTest::floatsOfNumbers);
        Check.sentence("A: a number, auto, min or max; B one of these, or n and fr", TextBoundsTest::sidesOfMinmax);
        Check.sentence("k a digit 1 .. 9", TextBoundsTest::timesOfRepeat);
        Check.sentence("T one or more tracks", TextBoundsTest::tracksOfRepeat);
        Check.sentence("without repeat in them", TextBoundsTest::noRepeatInRepeat);
        Check.sentence("At most 12 tracks", TextBoundsTest::twelveTracks);
        Check.sentence("At most 12 tracks (the twelfth is as the others)", TextBoundsTest::theTwelfth);
        Check.sentence("no template begins with the first k + 1 characters", TextBoundsTest::whatGoesOn);
        Check.sentence("more than 12 tracks, too", TextBoundsTest::whatGoesOnNearTwelve);
        Check.sentence("the length of the text when all of it begins one", TextBoundsTest::allBeginsOne);
        Check.sentence("no such axis (the text stays)", TextBoundsTest::noSuchAxis);
        Check.sentence("the one before stays; the text is empty then", TextBoundsTest::refusedTemplate);
        Check.sentence("The text .., which is empty then", TextBoundsTest::takenTemplate);
        Check.sentence("whatever was taken since; no such axis is no refusal", TextBoundsTest::placeStays);
        Check.sentence("-1 when none was", TextBoundsTest::noPlace);
        Check.finish();
    }

    private static void characters() {
        for (int c = 0; c <= 65535; c++) {
            Check.is("write of character " + c, new TrackGrid().write((char) c), c >= 32 && c <= 126);
        }
    }

    private static void forty() {
        TrackGrid grid = new TrackGrid();
        for (int written = 0; written < 40; written++) {
            Check.is("write with " + written + " there", grid.write(FORTY.charAt(written)), true);
        }
        for (int c = 0; c <= 300; c++) {
            Check.is("write with 40 there", grid.write((char) c), false);
        }
        Check.is("the 40 are all that was written", grid.template(0), 5);
        Check.is("write behind a template", grid.write('7'), true);

        TrackGrid refused = new TrackGrid();
        Check.write(refused, "x".repeat(40));
        Check.is("write with 40 there", refused.write('1'), false);
        Check.refused(refused, 0, "", 0);
        Check.write(refused, FORTY);
        Check.is("write with 40 there", refused.write('1'), false);
    }

    private static void noneSuchIsNotAppended() {
        TrackGrid grid = new TrackGrid();
        char[] none = {0, 9, 10, 31, 127, 128, 160, 255, 256 + '5', 65535};
        for (char c : none) {
            Check.is("write of character " + (int) c, grid.write(c), false);
        }
        Check.write(grid, "1");
        for (char c : none) {
            Check.is("write of character " + (int) c, grid.write(c), false);
        }
        Check.write(grid, "2");
        Check.is("template", grid.template(0), 1);
        grid.layout();
        Check.sizes(grid, 0, 12f);
        // they count for nothing: 40 others may still be written
        for (char c : none) {
            grid.write(c);
        }
        Check.template(grid, 0, FORTY, 5);
    }

    private static void emptyText() {
        TrackGrid grid = new TrackGrid();
        for (int axis = 0; axis < 2; axis++) {
            Check.template(grid, axis, "", 0);
            Check.template(grid, axis, "5", 1);
            Check.template(grid, axis, "", 0);
        }
        Check.is("no refusal", grid.place(), -1);
        grid.layout();
        Check.sizes(grid, 0, 0f);
        Check.sizes(grid, 1);
    }

    private static void singleBlanks() {
        TrackGrid grid = new TrackGrid();
        Check.template(grid, 0, "1 2", 2);
        Check.template(grid, 0, "repeat(2,1 2) 3", 5);
        Check.refused(grid, 0, " ", 0);
        Check.refused(grid, 0, " 1", 0);
        Check.refused(grid, 0, "1 ", 2);
        Check.refused(grid, 0, "1  2", 2);
        Check.refused(grid, 0, "auto2", 4);
        Check.refused(grid, 0, "fit(1)2", 6);
        Check.refused(grid, 0, "repeat(2,1  2)", 11);
        Check.refused(grid, 0, "repeat(2, 1)", 9);
        Check.refused(grid, 0, "repeat(2,1 )", 11);
        Check.refused(grid, 0, "repeat(2,1)2", 11);
        Check.refused(grid, 0, "minmax(1, 2)", 9);
        Check.refused(grid, 0, "1 fr", 3);
    }

    private static void longerThanForty() {
        TrackGrid grid = new TrackGrid();
        Check.template(grid, 0, FORTY, 5);
        // each begins a template that only longer texts could end
        Check.refused(grid, 0, "minmax(1,2) minmax(1,2) minmax(1,2) minm", 40);
        Check.refused(grid, 0, "repeat(1,minmax(max,max) minmax(max,max)", 40);
        Check.refused(grid, 0, "1234.123 1234.123 1234.123 1234.123 123.", 40);
        Check.refused(grid, 0, "1234.123 1234.123 1234.123 1234.123 1fr ", 40);
        Check.refused(grid, 0, "1234.123 1234.123 1234.123 1234.123 repe", 40);
        // and the last of the 40 may be the one that is wrong
        Check.refused(grid, 0, "1234.123 1234.123 1234.123 1234.123 123-", 39);
    }

    private static void digitsBefore() {
        String[] before = {"", "minmax(", "minmax(1,", "fit("};
        String[] behind = {"", ",2)", ")", ")"};
        for (int i = 0; i < before.length; i++) {
            TrackGrid grid = new TrackGrid();
            Check.template(grid, 0, before[i] + "7" + behind[i], 1);
            Check.template(grid, 0, before[i] + "0007" + behind[i], 1);
            Check.template(grid, 0, before[i] + "9999" + behind[i], 1);
            Check.refused(grid, 0, before[i] + "12345" + behind[i], before[i].length() + 4);
            Check.refused(grid, 0, before[i] + "00000" + behind[i], before[i].length() + 4);
            Check.refused(grid, 0, before[i] + ".5" + behind[i], before[i].length());
            Check.refused(grid, 0, before[i] + "-1" + behind[i], before[i].length());
        }
        TrackGrid share = new TrackGrid();
        Check.template(share, 0, "9999fr minmax(1,9999fr)", 2);
        Check.refused(share, 0, "10000fr", 4);
        Check.refused(share, 0, "fr", 1);
        Check.refused(share, 0, "minmax(1,fr)", 9);
    }

    private static void digitsBehind() {
        String[] before = {"", "minmax(", "minmax(1,", "fit("};
        String[] behind = {"", ",2)", ")", ")"};
        for (int i = 0; i < before.length; i++) {
            TrackGrid grid = new TrackGrid();
            int point = before[i].length() + 4;
            Check.template(grid, 0, before[i] + "1234.5" + behind[i], 1);
            Check.template(grid, 0, before[i] + "1234.567" + behind[i], 1);
            Check.refused(grid, 0, before[i] + "1234.5678" + behind[i], point + 4);
            Check.refused(grid, 0, before[i] + "1234.0000" + behind[i], point + 4);
            Check.refused(grid, 0, before[i] + "1234." + behind[i], point + 1);
            Check.refused(grid, 0, before[i] + "1234.5.6" + behind[i], point + 2);
        }
        TrackGrid share = new TrackGrid();
        Check.template(share, 0, "0.5fr 1.125fr minmax(1,1.125fr)", 3);
        Check.refused(share, 0, "1.fr", 2);
        Check.refused(share, 0, "1.1250fr", 5);
    }

    private static void floatsOfNumbers() {
        size("0", 0f);
        size("9", 9f);
        size("9999", 9999f);
        size("0.0", 0f);
        size("0.9", 9f / 10f);
        size("0.09", 9f / 100f);
        size("0.009", 9f / 1000f);
        size("0.7", 7f / 10f);
        size("0.70", 70f / 100f);
        size("0.700", 700f / 1000f);
        size("0.999", 999f / 1000f);
        size("9.99", 9f + 99f / 100f);
        size("9999.9", 9999f + 9f / 10f);
        size("9999.99", 9999f + 99f / 100f);
        size("9999.999", 9999f + 999f / 1000f);
    }

    private static void size(String text, float due) {
        TrackGrid grid = new TrackGrid();
        Check.template(grid, 1, text, 1);
        grid.layout();
        Check.sizes(grid, 1, due);
    }

    private static void sidesOfMinmax() {
        String[] plain = {"3", "2.75", "auto", "min", "max"};
        for (String low : plain) {
            TrackGrid grid = new TrackGrid();
            for (String high : plain) {
                Check.template(grid, 0, "minmax(" + low + "," + high + ")", 1);
            }
            Check.template(grid, 0, "minmax(" + low + ",1.5fr)", 1);
            Check.refused(grid, 0, "minmax(" + low + ",fit(1))", 8 + low.length());
            Check.refused(grid, 0, "minmax(" + low + ",1,1)", 9 + low.length());
            Check.refused(grid, 0, "minmax(" + low + ")", 7 + low.length());
        }
        TrackGrid grid = new TrackGrid();
        Check.refused(grid, 0, "minmax(1fr,1)", 8);
        Check.refused(grid, 0, "minmax(fit(1),1)", 7);
        Check.refused(grid, 0, "minmax(,1)", 7);
        Check.refused(grid, 0, "minmax(1,)", 9);
    }

    private static void timesOfRepeat() {
        for (char c = 32; c <= 126; c++) {
            TrackGrid grid = new TrackGrid();
            String text = "repeat(" + c + ",1)";
            if (c >= '1' && c <= '9') {
                Check.template(grid, 0, text, c - '0');
            } else {
                Check.refused(grid, 0, text, 7);
            }
        }
        Check.refused(new TrackGrid(), 0, "repeat(10,1)", 8);
        Check.refused(new TrackGrid(), 0, "repeat(01,1)", 7);
        Check.refused(new TrackGrid(), 0, "repeat(,1)", 7);
    }

    private static void tracksOfRepeat() {
        TrackGrid grid = new TrackGrid();
        Check.template(grid, 0, "repeat(1,5)", 1);
        Check.template(grid, 0, "repeat(2,5 6)", 4);
        Check.template(grid, 0, "repeat(1,1 2 3 4 5 6 7 8 9 10 11 12)", 12);
        grid.layout();
        Check.sizes(grid, 0, 1f, 2f, 3f, 4f, 5f, 6f, 7f, 8f, 9f, 10f, 11f, 12f);
        Check.refused(grid, 0, "repeat(1,)", 9);
        Check.refused(grid, 0, "repeat(1)", 8);
        Check.refused(grid, 0, "repeat(1,5,6)", 10);
    }

    private static void noRepeatInRepeat() {
        TrackGrid grid = new TrackGrid();
        Check.template(grid, 0, "repeat(2,1) repeat(2,1)", 4);
        Check.refused(grid, 0, "repeat(2,repeat(2,1))", 9);
        Check.refused(grid, 0, "repeat(2,1 repeat(2,1))", 11);
        Check.refused(grid, 0, "minmax(1,repeat(1,1))", 9);
    }

    private static void twelveTracks() {
        taken(Grids.ones(11), 11);
        taken(Grids.ones(12), 12);
        refusedAt(Grids.ones(13), 23);
        taken("repeat(6,1 1)", 12);
        taken("repeat(4,1 1 1)", 12);
        taken("repeat(3,1 1 1 1)", 12);
        taken("repeat(2,1 1 1 1 1 1)", 12);
        refusedAt("repeat(7,1 1)", 10);
        refusedAt("repeat(5,1 1 1)", 12);
        refusedAt("repeat(2,1 1 1 1 1 1 1)", 20);
        taken("repeat(9,1) repeat(3,1)", 12);
        refusedAt("repeat(9,1) repeat(4,1)", 19);
        taken("1 1 1 repeat(9,1)", 12);
        refusedAt("1 1 1 1 repeat(9,1)", 15);
        taken("repeat(9,1) 1 1 1", 12);
        refusedAt("repeat(9,1) 1 1 1 1", 17);
        taken(Grids.ones(11) + " repeat(1,1)", 12);
        refusedAt(Grids.ones(11) + " repeat(1,1 1)", 32);
        refusedAt(Grids.ones(11) + " repeat(2,1)", 29);
        refusedAt("repeat(6,1 1) 1", 13);
    }

    /** Each kind of track as the twelfth, with an item on it that needs 3 to 8: its base, and its limit. */
    private static void theTwelfth() {
        String[] texts = {"5", "auto", "min", "max", "fit(6)", "minmax(2,4)", "minmax(2,7fr)", "0.5fr"};
        float[] bases = {5f, 3f, 3f, 8f, 3f, 2f, 2f, 3f};
        float[] sizes = {5f, 8f, 3f, 8f, 6f, 4f, 40f, 20f};
        for (int i = 0; i < texts.length; i++) {
            TrackGrid grid = new TrackGrid();
            Check.template(grid, 0, "repeat(9,0) 0 0 " + texts[i], 12);
            Grids.item(grid, 12, 1, 3f, 8f);
            grid.layout();
            Check.isFloat("base of a twelfth " + texts[i], grid.size(0, 11), bases[i]);
            grid.room(0, 40f, 0f);
            grid.layout();
            Check.isFloat("size of a twelfth " + texts[i], grid.size(0, 11), sizes[i]);
            // behind it, a template of eleven leaves the twelfth as AUTO
            Check.template(grid, 0, "repeat(9,0) 0 0", 11);
            grid.layout();
            Check.isFloat("size without " + texts[i], grid.size(0, 11), 8f);
        }
    }

    private static void taken(String text, int tracks) {
        TrackGrid grid = new TrackGrid();
        Check.template(grid, 1, text, tracks);
        Check.is("place", grid.place(), -1);
        grid.layout();
        Check.is("tracks of " + text, grid.tracks(1), tracks);
    }

    private static void refusedAt(String text, int place) {
        TrackGrid grid = new TrackGrid();
        Check.refused(grid, 1, text, place);
        grid.layout();
        Check.is("tracks without " + text, grid.tracks(1), 0);
    }

    private static void whatGoesOn() {
        whole("", DIGITS + "amfr");
        wholeNumbers();
        whole("1fr", " ");
        whole("auto", " ");
        whole("min", "m ");
        whole("max", " ");
        whole("fit(1)", " ");
        whole("minmax(1,2)", " ");
        whole("repeat(2,1)", " ");
        begun("1 ", DIGITS + "amfr");
        begun("repeat(2,1) ", DIGITS + "amfr");
        begun("m", "ia");
        begun("repeat(", "123456789");
        words();
        sides();
        repeated();
    }

    private static void wholeNumbers() {
        whole("1", DIGITS + ".f ");
        whole("123", DIGITS + ".f ");
        whole("1234", ".f ");
        begun("1.", DIGITS);
        whole("1.2", DIGITS + "f ");
        whole("1.23", DIGITS + "f ");
        whole("1.234", "f ");
        begun("fit(", DIGITS);
        begun("fit(123", DIGITS + ".)");
        begun("fit(1234", ".)");
        begun("fit(1.", DIGITS);
        begun("fit(1.23", DIGITS + ")");
        begun("fit(1.234", ")");
    }

    private static void words() {
        String[] outer = {"", "repeat(2,"};
        for (String before : outer) {
            forced(before, "auto");
            forced(before + "m", "ax");
            forced(before + "m", "in");
            forced(before + "min", "max(");
            forced(before, "fit(");
            forced(before + "1", "fr");
        }
        forced("minmax(", "auto,");
        forced("minmax(m", "ax,");
        forced("minmax(m", "in,");
        forced("minmax(1,", "auto)");
        forced("minmax(1,m", "ax)");
        forced("minmax(1,m", "in)");
        forced("minmax(1,2", "fr)");
        forced("", "repeat(");
        forced("repeat(", "2,");
    }

    /** Behind the first character of a word only its next one goes on. */
    private static void forced(String before, String word) {
        for (int cut = 1; cut < word.length(); cut++) {
            begun(before + word.substring(0, cut), word.substring(cut, cut + 1));
        }
    }

    private static void sides() {
        begun("minmax(", DIGITS + "am");
        begun("minmax(m", "ia");
        begun("minmax(123", DIGITS + ".,");
        begun("minmax(1234", ".,");
        begun("minmax(1.", DIGITS);
        begun("minmax(1.23", DIGITS + ",");
        begun("minmax(1.234", ",");
        begun("minmax(1,", DIGITS + "am");
        begun("minmax(1,m", "ia");
        begun("minmax(1,123", DIGITS + ".f)");
        begun("minmax(1,1234", ".f)");
        begun("minmax(1,1.", DIGITS);
        begun("minmax(1,1.23", DIGITS + "f)");
        begun("minmax(1,1.234", "f)");
    }

    private static void repeated() {
        begun("repeat(2,", DIGITS + "amf");
        begun("repeat(2,1 ", DIGITS + "amf");
        begun("repeat(2,m", "ia");
        begun("repeat(2,123", DIGITS + ".f )");
        begun("repeat(2,1234", ".f )");
        begun("repeat(2,1.234", "f )");
        begun("repeat(2,1fr", " )");
        begun("repeat(2,auto", " )");
        begun("repeat(2,min", "m )");
        begun("repeat(2,max", " )");
        begun("repeat(2,fit(1)", " )");
        begun("repeat(2,minmax(1,2)", " )");
    }

    private static void whatGoesOnNearTwelve() {
        whole(Grids.ones(11), DIGITS + ".f ");
        whole(Grids.ones(12), DIGITS + ".f");
        begun(Grids.ones(11) + " ", DIGITS + "amfr");
        begun(Grids.ones(11) + " repeat(", "1");
        begun(Grids.ones(10) + " repeat(", "12");
        begun(Grids.ones(4) + " repeat(", "12345678");
        begun(Grids.ones(3) + " repeat(", "123456789");
        begun("repeat(9,1) repeat(", "123");
        whole("repeat(9,1) 1 1", DIGITS + ".f ");
        whole("repeat(9,1) 1 1 1", DIGITS + ".f");
        whole("repeat(9,1) repeat(3,1)", "");
        whole("repeat(9,1) repeat(2,1)", " ");
        begun("repeat(6,1", DIGITS + ".f )");
        begun("repeat(7,1", DIGITS + ".f)");
        begun("repeat(6,1 auto", ")");
        begun("repeat(5,1 auto", ")");
        begun("repeat(4,1 auto", " )");
        begun("repeat(4,1 1 min", "m)");
        whole("repeat(6,1 1)", "");
        whole("repeat(5,1 1)", " ");
        begun("repeat(1," + Grids.ones(11), DIGITS + ".f )");
        begun("repeat(1," + Grids.ones(12), DIGITS + ".f)");
        begun(Grids.ones(4) + " repeat(4,1", DIGITS + ".f )");
        begun(Grids.ones(5) + " repeat(4,1", DIGITS + ".f)");
    }

    private static void whole(String text, String next) {
        goesOn(text, true, next);
    }

    private static void begun(String text, String next) {
        goesOn(text, false, next);
    }

    /** A text that begins a template goes on with just these of all the characters. */
    private static void goesOn(String text, boolean isWhole, String next) {
        Check.is("'" + text + "' is a template", placeOf(text) == -1, isWhole);
        if (!isWhole) {
            Check.is("place of '" + text + "'", placeOf(text), text.length());
        }
        for (char c = 32; c <= 126; c++) {
            boolean stops = placeOf(text + c) == text.length();
            Check.is("'" + text + "' goes on with '" + c + "'", !stops, next.indexOf(c) >= 0);
        }
    }

    private static int placeOf(String text) {
        TrackGrid grid = new TrackGrid();
        Check.write(grid, text);
        try {
            grid.template(0);
        } catch (IllegalArgumentException e) {
            Check.is("place within '" + text + "'", grid.place() >= 0 && grid.place() <= text.length(), true);
        }
        return grid.place();
    }

    private static void allBeginsOne() {
        String[] texts = {"1.", "1 ", "1f", "a", "mi", "minmax", "minmax(", "minmax(1,2", "fit(1", "repeat(2,1", "1 2 r",
            Grids.ones(11) + " "};
        for (String text : texts) {
            TrackGrid grid = new TrackGrid();
            Check.refused(grid, 0, text, text.length());
            // with one character more that does not go on, the place is the same
            Check.refused(grid, 0, text + "?", text.length());
        }
        // but the length is not the place when less of it stops
        Check.refused(new TrackGrid(), 0, Grids.ones(12) + " ", 23);
        Check.refused(new TrackGrid(), 0, "?", 0);
    }

    private static void noSuchAxis() {
        for (int axis : Grids.noAxes()) {
            TrackGrid grid = new TrackGrid();
            Check.write(grid, "5 6");
            Check.throwing("template(" + axis + ")", IllegalArgumentException.class, () -> grid.template(axis));
            Check.template(grid, 0, " 7", 3);
            Check.throwing("template(" + axis + ") of the empty text", IllegalArgumentException.class, () -> grid.template(axis));
            grid.layout();
            Check.sizes(grid, 0, 5f, 6f, 7f);
            Check.write(grid, "x".repeat(40));
            Check.throwing("template(" + axis + ")", IllegalArgumentException.class, () -> grid.template(axis));
            Check.is("the 40 stay", grid.write('x'), false);
        }
    }

    private static void refusedTemplate() {
        for (int axis = 0; axis < 2; axis++) {
            TrackGrid grid = new TrackGrid();
            Check.template(grid, 0, "5 6", 2);
            Check.template(grid, 1, "7 8", 2);
            Check.refused(grid, axis, "1 2 3 x", 6);
            Check.refused(grid, axis, Grids.ones(12) + " 1", 23);
            Check.refused(grid, axis, "9 ", 2);
            grid.layout();
            Check.sizes(grid, 0, 5f, 6f);
            Check.sizes(grid, 1, 7f, 8f);
            Check.template(grid, axis, "3", 1);
            Check.refused(grid, axis, "?", 0);
            Check.template(grid, axis, "", 0);
        }
        TrackGrid none = new TrackGrid();
        Check.refused(none, 1, "9 9 9 9 9,", 9);
        none.layout();
        Check.is("none was before, none is there", none.tracks(1), 0);
    }

    private static void takenTemplate() {
        TrackGrid grid = new TrackGrid();
        Check.template(grid, 0, "1 2", 2);
        Check.template(grid, 1, "", 0);
        Check.template(grid, 0, "3", 1);
        Check.template(grid, 0, FORTY, 5);
        Check.template(grid, 1, FORTY, 5);
    }

    private static void placeStays() {
        TrackGrid grid = new TrackGrid();
        Check.refused(grid, 0, "1 2 3,", 5);
        Check.template(grid, 0, "1 2", 2);
        Check.template(grid, 1, "", 0);
        Check.is("place behind templates", grid.place(), 5);
        Check.write(grid, "?");
        for (int axis : Grids.noAxes()) {
            Check.throwing("template(" + axis + ")", IllegalArgumentException.class, () -> grid.template(axis));
        }
        Check.is("place behind no such axis", grid.place(), 5);
        grid.layout();
        Check.is("place behind a layout", grid.place(), 5);
        Check.throwing("template(1)", IllegalArgumentException.class, () -> grid.template(1));
        Check.is("place of the latest one", grid.place(), 0);
        Check.is("place asked again", grid.place(), 0);
    }

    private static void noPlace() {
        TrackGrid grid = new TrackGrid();
        Check.is("place of a new object", grid.place(), -1);
        Check.write(grid, "?");
        Check.is("place of what is only written", grid.place(), -1);
        for (int axis : Grids.noAxes()) {
            Check.throwing("template(" + axis + ")", IllegalArgumentException.class, () -> grid.template(axis));
        }
        Check.is("no such axis is no refusal", grid.place(), -1);
        TrackGrid good = new TrackGrid();
        Check.template(good, 0, "1", 1);
        Check.template(good, 1, "", 0);
        Check.is("place behind templates", good.place(), -1);
        Check.refused(good, 0, "1,", 1);
    }
}
