import java.lang.reflect.Constructor;
import java.lang.reflect.Field;
import java.lang.reflect.Method;
import java.lang.reflect.Modifier;
import java.util.Arrays;
import java.util.NoSuchElementException;
import java.util.TreeSet;

/** Promise 1 and the face of the class. */
public final class FaceTest {
    private static final String[] FACE = {
        "boolean need(int,int,float,float)", "boolean put(int,int)", "boolean room(int,float,float)",
        "boolean write(char)", "float at(int,int)", "float extent(int,int)", "float free(int)",
        "float size(int,int)", "int hit(float,float)", "int item(int,int,int,int)", "int layout()",
        "int line(int,int)", "int place()", "int template(int)", "int tracks(int)",
        "void flow(boolean,boolean)"
    };

    public static void main(String[] args) {
        newObject();
        newObjectLaidOut();
        face();
        Check.finish();
    }

    private static void newObject() {
        TrackGrid grid = new TrackGrid();
        Check.is("place", grid.place(), -1);
        Check.is("hit", grid.hit(0f, 0f), -1);
        for (int axis = -1; axis <= 2; axis++) {
            int a = axis;
            Check.is("tracks", grid.tracks(a), -1);
            Check.isFloat("free", grid.free(a), 0f);
            Check.is("line", grid.line(0, a), 0);
            Check.is("need without items", grid.need(0, a, 1f, 2f), false);
            Check.throwing("size", NoSuchElementException.class, () -> grid.size(a, 0));
            Check.throwing("at", NoSuchElementException.class, () -> grid.at(a, 0));
            Check.throwing("extent", NoSuchElementException.class, () -> grid.extent(0, a));
        }
    }

    private static void newObjectLaidOut() {
        TrackGrid grid = new TrackGrid();
        Check.is("template of the empty text", grid.template(0), 0);
        Check.is("layout", grid.layout(), 0);
        Check.is("one column", grid.tracks(0), 1);
        Check.is("no row", grid.tracks(1), 0);
        Check.isFloat("space of columns", grid.free(0), 0f);
        Check.isFloat("space of rows", grid.free(1), 0f);

        // flow along rows, not packed: the third item does not go back to the hole
        Check.template(grid, 0, "1 1", 2);
        Check.is("first item", grid.item(0, 1, 0, 1), 0);
        Check.is("second item", grid.item(0, 2, 0, 1), 1);
        Check.is("third item", grid.item(0, 1, 0, 1), 2);
        grid.layout();
        Check.lines(grid, 0, 1, 1);
        Check.lines(grid, 1, 1, 2);
        Check.lines(grid, 2, 1, 3);
        Check.isFloat("gap", grid.at(0, 1), 1f);
        Check.isFloat("need is 0f", grid.size(1, 0), 0f);

        // axes at the start, not stretched
        TrackGrid roomy = new TrackGrid();
        roomy.room(0, 8f, 0f);
        roomy.layout();
        Check.sizes(roomy, 0, 0f);
        Check.isFloat("at the start", roomy.at(0, 0), 0f);
    }

    private static void face() {
        int mods = TrackGrid.class.getModifiers();
        Check.is("public and final", Modifier.isPublic(mods) && Modifier.isFinal(mods), true);
        TreeSet<String> found = new TreeSet<>();
        TreeSet<String> open = new TreeSet<>();
        TreeSet<String> hidden = new TreeSet<>();
        for (Method m : TrackGrid.class.getDeclaredMethods()) {
            if (Modifier.isPublic(m.getModifiers())) {
                String all = m.toString();
                found.add(m.getReturnType() + " " + m.getName() + all.substring(all.indexOf('('), all.indexOf(')') + 1));
                open.add(m.getName());
            } else {
                hidden.add(m.getName());
                Check.is(m + " is private", Modifier.isPrivate(m.getModifiers()), true);
            }
        }
        Check.is("face " + found, found.equals(new TreeSet<>(Arrays.asList(FACE))), true);
        hidden.retainAll(open);
        Check.is("no private method with a public name " + hidden, hidden.size(), 0);
        for (Field f : TrackGrid.class.getDeclaredFields()) {
            Check.is(f + " is private", Modifier.isPrivate(f.getModifiers()), true);
        }
        Constructor<?>[] constructors = TrackGrid.class.getDeclaredConstructors();
        Check.is("one constructor", constructors.length, 1);
        Check.is("of no parameters", constructors[0].getParameterCount(), 0);
    }
}
