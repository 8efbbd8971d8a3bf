import java.util.function.Consumer;

/** Promises 10, 11, 14 and PLACING: each sentence that names a bound, at it and just beyond it. */
public final class PlacingBoundsTest {
    private static final int[] FAR = {Integer.MIN_VALUE, Integer.MIN_VALUE + 1, -11, -1, 10, 11, 12, Integer.MAX_VALUE};

    public static void main(String[] args) {
        eachFlow("There are LINES 1 .. 13 on each, and so at most 12 TRACKS", PlacingBoundsTest::linesOfAnAxis);
        eachFlow("COUNT ..: the greatest of 1", PlacingBoundsTest::countOne);
        eachFlow("COUNT ..: those of its template", PlacingBoundsTest::countOfTemplate);
        eachFlow("COUNT ..: start + span - 1 of items with a start on it", PlacingBoundsTest::countOfStarts);
        eachFlow("COUNT ..: and spans of the others", PlacingBoundsTest::countOfSpans);
        eachFlow("it ends within the COUNT tracks on the other axis", PlacingBoundsTest::withinCount);
        eachFlow("within 12 on the main one", PlacingBoundsTest::withinTwelve);
        eachFlow("FREE when none of its cells is taken", PlacingBoundsTest::noCellTaken);
        eachFlow("(1) .. placed there, whether it is free or not", PlacingBoundsTest::toldPlaces);
        eachFlow("(2) .. at the least free line of the other axis", PlacingBoundsTest::leastFreeLine);
        eachFlow("(2) .. not below the line behind the item placed in this step before it", PlacingBoundsTest::lineBehind);
        eachFlow("(2) .. that has the same main start", PlacingBoundsTest::sameMainStart);
        eachFlow("(2) .. (not when PACKED)", PlacingBoundsTest::lineBehindWhenPacked);
        eachFlow("(2) .. without any free place is NOT PLACED", PlacingBoundsTest::noFreeLine);
        eachFlow("(3) .. A CURSOR .., 1 and 1 at first", PlacingBoundsTest::cursorAtFirst);
        eachFlow("(3) .. when PACKED, it is put to 1 and 1 before each item", PlacingBoundsTest::cursorWhenPacked);
        eachFlow("(3) .. when that start is below the cursor's other line, its main line grows by 1", PlacingBoundsTest::startBelowCursor);
        eachFlow("(3) .. the least main line from the cursor's on with a free place there", PlacingBoundsTest::leastMainLine);
        eachFlow("(3) .. the rest of its main line, then the main lines behind from 1 on", PlacingBoundsTest::wrapsAround);
        eachFlow("An item without any free place is NOT PLACED", PlacingBoundsTest::notPlaced);
        eachFlow("and the cursor is as before it", PlacingBoundsTest::cursorStays);
        eachFlow("TRACKS ..: as many as the placed items reach", PlacingBoundsTest::reach);
        eachFlow("on the other axis at least COUNT", PlacingBoundsTest::reachOfOtherAxis);
        eachFlow("layout: how many items were placed", PlacingBoundsTest::howMany);
        eachFlow("tracks: the main one perhaps 0", PlacingBoundsTest::noMainTrack);
        eachFlow("tracks: -1 when .. no layout was made", PlacingBoundsTest::noLayout);
        eachFlow("tracks: -1 when there is no such axis", PlacingBoundsTest::tracksOfNoAxis);
        eachFlow("line: 0 when it is not placed", PlacingBoundsTest::lineOfNotPlaced);
        eachFlow("line: 0 when .. there was no layout with it", PlacingBoundsTest::lineOfLaterItem);
        eachFlow("line: 0 when .. there is no such item or axis", PlacingBoundsTest::lineOfNoItem);
        eachFlow("of the latest layout (whatever was told since)", PlacingBoundsTest::latestLayout);
        Check.finish();
    }

    private static void eachFlow(String sentence, Consumer<Board> test) {
        Check.sentence(sentence + " [rows]", () -> test.accept(new Board(false, false)));
        Check.sentence(sentence + " [columns]", () -> test.accept(new Board(true, false)));
    }

    /** Takes cells of one main line: from the first on, so many. */
    private static void fillLine(Board board, int mainLine, int cells) {
        for (int from = 1; from <= cells; from += 4) {
            board.item(mainLine, 1, from, Math.min(4, cells - from + 1));
        }
    }

    private static void linesOfAnAxis(Board board) {
        board.item(1, 1, 1, 1);
        board.item(12, 1, 12, 1);
        board.item(9, 4, 9, 4);
        board.item(0, 4, 0, 4);
        board.laysOut(4);
        board.stands(1, 12, 12);
        board.stands(2, 9, 9);
        board.stands(3, 1, 2);
        board.tracks(12, 12);
    }

    private static void countOne(Board board) {
        board.laysOut(0);
        board.tracks(0, 1);
        board.item(0, 1, 0, 1);
        board.item(0, 1, 0, 1);
        board.laysOut(2);
        board.stands(0, 1, 1);
        board.stands(1, 2, 1);
        board.tracks(2, 1);
    }

    private static void countOfTemplate(Board board) {
        board.item(0, 1, 0, 1);
        board.item(0, 1, 0, 1);
        for (int tracks = 1; tracks <= 12; tracks++) {
            board.otherTracks(tracks);
            board.laysOut(2);
            board.tracks(tracks == 1 ? 2 : 1, tracks);
        }
        Check.template(board.grid, board.other, "", 0);
        board.laysOut(2);
        board.tracks(2, 1);
        // the template of the main axis counts for nothing here
        board.mainTracks(3);
        board.laysOut(2);
        board.tracks(3, 1);
    }

    private static void countOfStarts(Board board) {
        board.item(0, 1, 4, 2);
        for (int tracks = 0; tracks <= 12; tracks++) {
            board.otherTracks(tracks);
            board.laysOut(1);
            board.tracks(1, Math.max(5, tracks));
        }
        board.otherTracks(0);
        board.item(1, 1, 12, 1);
        board.laysOut(2);
        board.tracks(1, 12);
        Board last = new Board(board.main == 0, false);
        last.item(0, 1, 9, 4);
        last.laysOut(1);
        last.tracks(1, 12);
    }

    private static void countOfSpans(Board board) {
        board.item(0, 1, 0, 3);
        for (int tracks = 0; tracks <= 5; tracks++) {
            board.otherTracks(tracks);
            board.laysOut(1);
            board.tracks(1, Math.max(3, tracks));
        }
        // the span of an item with a start on the main axis alone counts, too
        board.otherTracks(0);
        board.item(2, 1, 0, 4);
        board.laysOut(2);
        board.tracks(2, 4);
        // a span on the main axis does not
        board.item(0, 4, 0, 1);
        board.laysOut(3);
        Check.is("tracks of the other axis", board.grid.tracks(board.other), 4);
    }

    private static void withinCount(Board board) {
        board.otherTracks(5);
        board.item(1, 1, 1, 1);
        board.item(0, 1, 0, 4);
        board.item(0, 1, 0, 4);
        board.laysOut(3);
        board.stands(1, 1, 2);
        board.stands(2, 2, 1);
        // with one taken more, four in a row end behind the fifth track
        board.item(1, 1, 2, 1);
        board.laysOut(4);
        board.stands(1, 2, 1);
        board.stands(2, 3, 1);
        // with one track more they end within again
        board.otherTracks(6);
        board.laysOut(4);
        board.stands(1, 1, 3);
        board.stands(2, 2, 1);
    }

    private static void withinTwelve(Board board) {
        for (int taken = 7; taken <= 9; taken++) {
            for (int start = 0; start <= 1; start++) {
                for (int packed = 0; packed <= 1; packed++) {
                    Board full = new Board(board.main == 0, packed == 1);
                    full.fill(1, taken);
                    int item = full.item(0, 4, start, 1);
                    full.laysOut(taken <= 8 ? item + 1 : item);
                    full.stands(item, taken <= 8 ? taken + 1 : 0, taken <= 8 ? 1 : 0);
                    full.tracks(taken <= 8 ? taken + 4 : taken, 1);
                }
            }
        }
        // the last main line itself
        for (int taken = 11; taken <= 12; taken++) {
            Board full = new Board(board.main == 0, false);
            full.fill(1, taken);
            int item = full.item(0, 1, 0, 1);
            full.laysOut(taken == 11 ? item + 1 : item);
            full.stands(item, taken == 11 ? 12 : 0, taken == 11 ? 1 : 0);
        }
        // a template of fewer tracks does not hold the main axis
        board.mainTracks(2);
        board.fill(1, 11);
        board.item(0, 1, 0, 1);
        board.laysOut(4);
        board.stands(3, 12, 1);
    }

    /** Each cell of a place of 2 by 2 counts. */
    private static void noCellTaken(Board board) {
        for (int m = 1; m <= 2; m++) {
            for (int o = 1; o <= 2; o++) {
                Board one = new Board(board.main == 0, false);
                one.item(m, 1, o, 1);
                one.item(0, 2, 0, 2);
                one.laysOut(2);
                one.stands(1, m + 1, 1);
            }
        }
        // what only touches it does not
        board.item(3, 1, 1, 2);
        board.item(1, 2, 3, 1);
        board.item(0, 2, 0, 2);
        board.laysOut(3);
        board.stands(2, 1, 1);
    }

    private static void toldPlaces(Board board) {
        board.otherTracks(1);
        board.item(2, 2, 2, 2);
        board.item(2, 2, 2, 2);
        board.item(3, 1, 3, 1);
        board.item(12, 1, 12, 1);
        board.item(9, 4, 9, 4);
        board.laysOut(5);
        board.stands(0, 2, 2);
        board.stands(1, 2, 2);
        board.stands(2, 3, 3);
        board.stands(3, 12, 12);
        board.stands(4, 9, 9);
    }

    private static void leastFreeLine(Board board) {
        for (int taken = 0; taken <= 4; taken++) {
            Board line = new Board(board.main == 0, false);
            line.otherTracks(4);
            fillLine(line, 2, taken);
            int item = line.item(2, 1, 0, 1);
            line.laysOut(taken < 4 ? item + 1 : item);
            line.stands(item, taken < 4 ? 2 : 0, taken < 4 ? taken + 1 : 0);
        }
        // a hole that is too small, one that just holds it, and told items made later count as well
        board.otherTracks(8);
        board.item(1, 1, 0, 2);
        board.item(1, 1, 2, 1);
        board.item(1, 1, 4, 1);
        board.item(1, 1, 7, 1);
        board.laysOut(4);
        board.stands(0, 1, 5);
    }

    private static void lineBehind(Board board) {
        board.otherTracks(6);
        board.item(1, 1, 2, 1);
        board.item(1, 1, 0, 2);
        board.item(1, 1, 0, 1);
        board.item(1, 1, 0, 1);
        board.laysOut(4);
        // line 1 stays empty: it is below the line behind the one at 3 and 4
        board.stands(1, 1, 3);
        board.stands(2, 1, 5);
        board.stands(3, 1, 6);
        // an item of step (1) is none of this step: line 1 in front of it may be taken
        Board first = new Board(board.main == 0, false);
        first.item(1, 1, 2, 1);
        first.item(1, 1, 0, 1);
        first.laysOut(2);
        first.stands(1, 1, 1);
        // one that was not placed has no line behind it
        Board open = new Board(board.main == 0, false);
        open.otherTracks(3);
        open.item(1, 1, 2, 1);
        open.item(1, 1, 0, 2);
        open.item(1, 1, 0, 1);
        open.laysOut(2);
        open.stands(1, 0, 0);
        open.stands(2, 1, 1);
        // nor does it change the line behind the one before it
        Board kept = new Board(board.main == 0, false);
        kept.otherTracks(4);
        kept.item(1, 1, 1, 1);
        kept.item(1, 1, 0, 2);
        kept.item(1, 1, 0, 2);
        kept.item(1, 1, 0, 1);
        kept.laysOut(3);
        kept.stands(1, 1, 2);
        kept.stands(2, 0, 0);
        kept.stands(3, 1, 4);
    }

    private static void sameMainStart(Board board) {
        board.otherTracks(5);
        board.item(1, 2, 0, 2);
        board.item(2, 1, 0, 1);
        board.item(3, 1, 0, 1);
        board.item(1, 1, 0, 1);
        board.item(2, 1, 0, 1);
        board.laysOut(5);
        board.stands(0, 1, 1);
        board.stands(1, 2, 3);
        board.stands(2, 3, 1);
        board.stands(3, 1, 3);
        board.stands(4, 2, 4);
        // the last main line has one of its own as well
        Board last = new Board(board.main == 0, false);
        last.otherTracks(4);
        last.item(12, 1, 2, 1);
        last.item(12, 1, 0, 2);
        last.item(12, 1, 0, 1);
        last.item(11, 1, 0, 1);
        last.laysOut(3);
        last.stands(1, 12, 3);
        last.stands(2, 0, 0);
        last.stands(3, 11, 1);
    }

    private static void lineBehindWhenPacked(Board board) {
        board.otherTracks(4);
        board.item(1, 1, 2, 1);
        board.item(1, 1, 0, 2);
        board.item(1, 1, 0, 1);
        board.laysOut(2);
        board.stands(2, 0, 0);
        board.flow(true);
        board.laysOut(3);
        board.stands(1, 1, 3);
        board.stands(2, 1, 1);
    }

    private static void noFreeLine(Board board) {
        for (int packed = 0; packed <= 1; packed++) {
            Board full = new Board(board.main == 0, packed == 1);
            full.otherTracks(3);
            full.item(5, 1, 1, 2);
            full.item(5, 1, 0, 1);
            full.item(5, 1, 0, 1);
            full.laysOut(2);
            full.stands(1, 5, 3);
            full.stands(2, 0, 0);
            full.tracks(5, 3);
        }
        // COUNT is 12 at most, and all of it may be taken
        board.otherTracks(12);
        fillLine(board, 1, 11);
        board.item(1, 1, 0, 1);
        board.item(1, 1, 0, 1);
        board.laysOut(4);
        board.stands(3, 1, 12);
        board.stands(4, 0, 0);
    }

    private static void cursorAtFirst(Board board) {
        board.otherTracks(3);
        board.item(1, 1, 2, 2);
        board.item(0, 1, 0, 1);
        board.laysOut(2);
        board.stands(1, 1, 1);
        // items of the steps before do not move it, and each layout begins with it anew
        board.item(12, 1, 0, 1);
        board.item(0, 1, 0, 1);
        board.laysOut(4);
        board.stands(1, 1, 1);
        board.stands(3, 2, 1);
        board.laysOut(4);
        board.stands(1, 1, 1);
        board.stands(3, 2, 1);
    }

    private static void cursorWhenPacked(Board board) {
        board.otherTracks(2);
        board.item(0, 1, 0, 1);
        board.item(0, 1, 0, 2);
        board.item(0, 1, 0, 1);
        board.item(0, 1, 2, 1);
        board.item(0, 1, 1, 1);
        board.laysOut(5);
        board.stands(1, 2, 1);
        board.stands(2, 3, 1);
        board.stands(3, 3, 2);
        board.stands(4, 4, 1);
        board.flow(true);
        board.laysOut(5);
        board.stands(0, 1, 1);
        board.stands(1, 2, 1);
        board.stands(2, 1, 2);
        board.stands(3, 3, 2);
        board.stands(4, 3, 1);
        // its other line as well: behind an item at line 2 the first cell is looked at again
        Board again = new Board(board.main == 0, true);
        again.otherTracks(3);
        again.item(0, 1, 2, 1);
        again.item(0, 1, 0, 1);
        again.item(0, 1, 3, 1);
        again.item(0, 1, 1, 1);
        again.laysOut(4);
        again.stands(0, 1, 2);
        again.stands(1, 1, 1);
        again.stands(2, 1, 3);
        again.stands(3, 2, 1);
    }

    /** The cursor stands at other line 3, on an item: starts below that, at it and above it. */
    private static void startBelowCursor(Board board) {
        int[] mainLine = {2, 2, 2, 1, 1};
        for (int start = 1; start <= 5; start++) {
            Board moved = new Board(board.main == 0, false);
            moved.otherTracks(6);
            moved.item(0, 1, 3, 1);
            moved.item(0, 1, start, 1);
            moved.item(0, 1, 0, 1);
            moved.laysOut(3);
            moved.stands(0, 1, 3);
            moved.stands(1, mainLine[start - 1], start);
            moved.stands(2, mainLine[start - 1], start + 1);
        }
        // at the very first the cursor's own cell is free: there its main line must not grow
        Board first = new Board(board.main == 0, false);
        first.item(0, 1, 1, 1);
        first.laysOut(1);
        first.stands(0, 1, 1);
        // grown beyond the last main line there is no place
        board.otherTracks(2);
        board.fill(2, 11);
        board.item(0, 1, 2, 1);
        board.item(0, 1, 1, 1);
        board.item(0, 1, 2, 1);
        board.laysOut(4);
        board.stands(3, 12, 2);
        board.stands(4, 0, 0);
        board.stands(5, 0, 0);
    }

    private static void leastMainLine(Board board) {
        board.otherTracks(2);
        board.item(2, 1, 2, 1);
        board.item(0, 1, 2, 1);
        board.item(0, 1, 2, 1);
        board.item(0, 2, 2, 1);
        board.laysOut(4);
        board.stands(1, 1, 2);
        board.stands(2, 3, 2);
        board.stands(3, 4, 2);
        // not below the cursor's, though there is a free place there
        Board behind = new Board(board.main == 0, false);
        behind.otherTracks(2);
        behind.item(1, 2, 1, 1);
        behind.item(0, 1, 1, 1);
        behind.item(0, 1, 2, 1);
        behind.laysOut(3);
        behind.stands(1, 3, 1);
        behind.stands(2, 3, 2);
        // the last main line at which it may begin
        Board last = new Board(board.main == 0, false);
        last.fill(1, 10);
        last.item(0, 2, 1, 1);
        last.laysOut(4);
        last.stands(3, 11, 1);
    }

    private static void wrapsAround(Board board) {
        board.otherTracks(3);
        board.item(0, 1, 0, 1);
        board.item(0, 1, 0, 1);
        board.item(0, 1, 0, 1);
        board.item(0, 1, 0, 1);
        board.laysOut(4);
        board.stands(2, 1, 3);
        board.stands(3, 2, 1);
        // the cells in front of the cursor on its own main line are not looked at
        Board front = new Board(board.main == 0, false);
        front.otherTracks(3);
        front.item(0, 1, 2, 1);
        front.item(0, 1, 0, 2);
        front.item(0, 1, 0, 1);
        front.laysOut(3);
        front.stands(0, 1, 2);
        front.stands(1, 2, 1);
        front.stands(2, 2, 3);
        // with COUNT 12, the last cell of all
        Board wide = new Board(board.main == 0, false);
        wide.otherTracks(12);
        fillLine(wide, 1, 11);
        wide.item(0, 1, 0, 1);
        wide.item(0, 1, 0, 1);
        wide.laysOut(5);
        wide.stands(3, 1, 12);
        wide.stands(4, 2, 1);
    }

    private static void notPlaced(Board board) {
        board.fill(1, 12);
        board.item(0, 1, 0, 1);
        board.item(0, 1, 1, 1);
        board.item(5, 1, 0, 1);
        board.laysOut(3);
        for (int item = 3; item <= 5; item++) {
            board.stands(item, 0, 0);
        }
        // with one cell free, the first of those that may stand there is placed
        Board free = new Board(board.main == 0, true);
        free.fill(1, 11);
        free.item(0, 2, 0, 1);
        free.item(0, 1, 0, 1);
        free.item(0, 1, 1, 1);
        free.laysOut(4);
        free.stands(3, 0, 0);
        free.stands(4, 12, 1);
        free.stands(5, 0, 0);
        // told ones are placed all the same
        board.item(12, 1, 1, 1);
        board.laysOut(4);
        board.stands(6, 12, 1);
    }

    private static void cursorStays(Board board) {
        // one with a start below the cursor's other line
        board.otherTracks(3);
        board.fill(1, 12);
        board.item(0, 1, 2, 1);
        board.item(0, 1, 1, 1);
        board.item(0, 1, 0, 1);
        board.laysOut(5);
        board.stands(3, 1, 2);
        board.stands(4, 0, 0);
        board.stands(5, 1, 3);
        // one with a start above it
        Board above = new Board(board.main == 0, false);
        above.otherTracks(3);
        above.fill(3, 12);
        above.item(0, 1, 1, 1);
        above.item(0, 1, 3, 1);
        above.item(0, 1, 0, 1);
        above.laysOut(5);
        above.stands(3, 1, 1);
        above.stands(4, 0, 0);
        above.stands(5, 1, 2);
        // one that goes anywhere
        Board wide = new Board(board.main == 0, false);
        wide.otherTracks(3);
        wide.fill(3, 12);
        wide.item(0, 1, 1, 1);
        wide.item(0, 1, 0, 3);
        wide.item(0, 1, 0, 1);
        wide.laysOut(5);
        wide.stands(3, 1, 1);
        wide.stands(4, 0, 0);
        wide.stands(5, 1, 2);
    }

    private static void reach(Board board) {
        int item = board.item(3, 2, 1, 1);
        for (int tracks = 0; tracks <= 6; tracks++) {
            board.mainTracks(tracks);
            board.laysOut(1);
            board.tracks(Math.max(4, tracks), 1);
        }
        board.stands(item, 3, 1);
        // the one that is not placed would reach further
        board.mainTracks(0);
        board.item(1, 2, 1, 1);
        board.item(4, 4, 0, 1);
        board.laysOut(2);
        board.stands(2, 0, 0);
        board.tracks(4, 1);
        board.item(12, 1, 1, 1);
        board.laysOut(3);
        board.tracks(12, 1);
        // nor does its span count where nothing else reaches
        Board small = new Board(board.main == 0, false);
        small.item(1, 1, 1, 1);
        small.item(1, 4, 0, 1);
        small.laysOut(1);
        small.tracks(1, 1);
    }

    /** An item that is not placed counts for COUNT, and so there are tracks up to it. */
    private static void reachOfOtherAxis(Board board) {
        board.fill(1, 12);
        board.item(0, 1, 1, 4);
        board.laysOut(3);
        board.tracks(12, 4);
        board.otherTracks(3);
        board.laysOut(3);
        board.tracks(12, 4);
        board.otherTracks(5);
        board.laysOut(3);
        board.tracks(12, 5);
    }

    private static void howMany(Board board) {
        board.laysOut(0);
        for (int items = 1; items <= 10; items++) {
            board.item(0, 1, 0, 1);
            board.laysOut(items);
        }
        Board full = new Board(board.main == 0, false);
        full.fill(1, 12);
        for (int items = 4; items <= 10; items++) {
            full.item(0, 1, 0, 1);
            full.laysOut(3);
        }
    }

    private static void noMainTrack(Board board) {
        board.laysOut(0);
        board.tracks(0, 1);
        board.mainTracks(1);
        board.laysOut(0);
        board.tracks(1, 1);
        board.mainTracks(0);
        board.laysOut(0);
        board.tracks(0, 1);
        board.item(0, 1, 0, 1);
        board.laysOut(1);
        board.tracks(1, 1);
    }

    private static void noLayout(Board board) {
        board.tracks(-1, -1);
        board.otherTracks(2);
        board.mainTracks(2);
        board.item(1, 1, 1, 1);
        board.tracks(-1, -1);
        board.laysOut(1);
        board.tracks(2, 2);
    }

    private static void tracksOfNoAxis(Board board) {
        for (int axis : Grids.noAxes()) {
            Check.is("tracks of axis " + axis, board.grid.tracks(axis), -1);
        }
        board.laysOut(0);
        for (int axis : Grids.noAxes()) {
            Check.is("tracks of axis " + axis, board.grid.tracks(axis), -1);
        }
    }

    private static void lineOfNotPlaced(Board board) {
        board.item(1, 1, 1, 1);
        board.item(1, 1, 0, 1);
        board.laysOut(1);
        board.stands(0, 1, 1);
        board.stands(1, 0, 0);
        board.otherTracks(2);
        board.laysOut(2);
        board.stands(1, 1, 2);
        // placed before, not placed now
        board.otherTracks(1);
        board.laysOut(1);
        board.stands(1, 0, 0);
    }

    private static void lineOfLaterItem(Board board) {
        board.item(3, 1, 4, 1);
        board.stands(0, 0, 0);
        board.laysOut(1);
        board.stands(0, 3, 4);
        board.item(5, 1, 6, 1);
        board.stands(1, 0, 0);
        board.laysOut(2);
        board.stands(1, 5, 6);
    }

    private static void lineOfNoItem(Board board) {
        for (int items = 0; items <= 1; items++) {
            for (int far : FAR) {
                board.stands(far, 0, 0);
            }
            for (int axis : Grids.noAxes()) {
                Check.is("line on axis " + axis, board.grid.line(0, axis), 0);
                Check.is("line of no item on axis " + axis, board.grid.line(axis, axis), 0);
            }
            board.stands(items, 0, 0);
            board.item(2, 1, 2, 1);
            board.laysOut(items + 1);
            board.stands(items, 2, 2);
        }
    }

    private static void latestLayout(Board board) {
        board.otherTracks(2);
        board.item(0, 1, 0, 1);
        board.item(0, 1, 0, 1);
        board.laysOut(2);
        board.otherTracks(1);
        board.mainTracks(7);
        board.item(9, 1, 9, 1);
        board.flow(true);
        board.tracks(1, 2);
        board.stands(1, 1, 2);
        Check.throwing("a refused template", IllegalArgumentException.class, () -> board.grid.template(2));
        Check.refused(board.grid, board.other, "?", 0);
        board.tracks(1, 2);
        board.stands(1, 1, 2);
        board.laysOut(3);
        board.tracks(9, 9);
    }
}
