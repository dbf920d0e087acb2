import java.lang.reflect.Constructor;
import java.lang.reflect.Field;
import java.lang.reflect.Method;
import java.lang.reflect.Modifier;
import java.util.Arrays;
import java.util.TreeSet;

/** Promise 1, and the public face: what the document lists, and nothing else that can be seen. */
public final class FaceTest {
    private static final String[] METHODS = {
        "int library(boolean)", "int member(int,int)", "void line(int,int,int)", "int copy(int,int,int,int)",
        "int move(int,int,int,int)", "int compare(int,int)", "int differ(int,int)", "int ahead(int)",
        "void change(int,int)", "int update(int)", "int define(int,boolean)", "int record(int,int)",
        "int delete(int)", "int alter(int,int)", "int repro(int,int)", "int generate(int,int,int,int)",
        "int verify(int)", "int export0(int)", "byte octet(int)", "int import0(byte)", "int dump(int,int)",
        "int dry(boolean)", "int greatest()", "int step()", "int find(int,int)", "int letter(int,int,int)",
        "int set(int,int)", "int count(int)",
    };

    public static void main(String[] args) {
        Checks checks = new Checks("face");
        checks.due("NONE", LibraryTools.NONE, -1);
        checks.due("public final", LibraryTools.class.getModifiers(), Modifier.PUBLIC | Modifier.FINAL);
        checks.dueText("methods", methods().toString(), new TreeSet<>(Arrays.asList(METHODS)).toString());
        checks.dueText("fields", fields().toString(), "[NONE]");
        for (Constructor<?> each : LibraryTools.class.getDeclaredConstructors()) {
            checks.dueText("constructor", each.toString(), "public LibraryTools()");
        }
        for (Class<?> each : LibraryTools.class.getDeclaredClasses()) {
            int modifiers = each.getModifiers();
            checks.due(each + " is static", modifiers & Modifier.STATIC, Modifier.STATIC);
            checks.due(each + " is hidden", modifiers & (Modifier.PUBLIC | Modifier.PROTECTED), 0);
        }
        aNewObjectIsEmpty(checks);
        objectsAreApart(checks);
        checks.end();
    }

    private static TreeSet<String> methods() {
        TreeSet<String> seen = new TreeSet<>();
        for (Method each : LibraryTools.class.getDeclaredMethods()) {
            if (!Modifier.isPrivate(each.getModifiers())) {
                String types = Arrays.toString(each.getParameterTypes()).replaceAll("[\\[\\] ]", "");
                seen.add(each.getReturnType() + " " + each.getName() + "(" + types + ")");
            }
        }
        return seen;
    }

    private static TreeSet<String> fields() {
        TreeSet<String> seen = new TreeSet<>();
        for (Field each : LibraryTools.class.getDeclaredFields()) {
            if (!Modifier.isPrivate(each.getModifiers())) {
                seen.add(each.getName());
            }
        }
        return seen;
    }

    private static void aNewObjectIsEmpty(Checks checks) {
        LibraryTools x = new LibraryTools();
        for (int what = 0; what <= 5; what++) {
            checks.due("count(" + what + ")", x.count(what), 0);
        }
        checks.due("greatest()", x.greatest(), 0);
        checks.due("dry(false)", x.dry(false), 0);
        checks.due("differ(0, 0)", x.differ(0, 0), -1);
        checks.due("dump(0, 0)", x.dump(0, 0), -1);
        checks.dueThrow("octet(0)", x, 0);
        checks.due("find(1, 0)", x.find(1, 0), -2);
        checks.due("set(1, 0)", x.set(1, 0), -1);
        checks.due("letter(1, 0, -1)", x.letter(1, 0, -1), -1);
        checks.due("ahead(3)", x.ahead(3), 3);
    }

    private static void objectsAreApart(Checks checks) {
        LibraryTools x = new LibraryTools();
        LibraryTools y = new LibraryTools();
        x.library(true);
        x.define(1, true);
        x.ahead(5);
        checks.due("another's count(0)", y.count(0), 0);
        checks.due("another's count(2)", y.count(2), 0);
        checks.due("another's ahead(1)", y.ahead(1), 3);
    }
}
