/** The example of README.md: its calls, and the answers that its comments tell. */
public final class ReadmeTest {
    public static void main(String[] args) {
        TrackGrid grid = new TrackGrid();
        for (char c : "100 auto 1fr".toCharArray()) {
            Check.is("write", grid.write(c), true);
        }
        Check.is("template", grid.template(0), 3);
        Check.is("room", grid.room(0, 500f, 10f), true);
        int item = grid.item(2, 1, 0, 1);
        Check.is("item", item, 0);
        Check.is("need of columns", grid.need(item, 0, 30f, 80f), true);
        Check.is("need of rows", grid.need(item, 1, 20f, 20f), true);
        Check.is("layout", grid.layout(), 1);
        Check.is("line of columns", grid.line(item, 0), 2);
        Check.is("line of rows", grid.line(item, 1), 1);
        Check.isFloat("at", grid.at(0, grid.line(item, 0) - 1), 110f);
        Check.isFloat("extent", grid.extent(item, 0), 80f);
        Check.isFloat("size", grid.size(0, 2), 300f);
        Check.is("hit", grid.hit(110f, 19f), 0);
        Check.finish();
    }
}
