import java.lang.reflect.Constructor;
import java.lang.reflect.Field;
import java.lang.reflect.Method;
import java.lang.reflect.Modifier;
import java.nio.file.Files;
import java.nio.file.Path;
import java.util.ArrayList;
import java.util.Arrays;
import java.util.List;
import java.util.TreeSet;

/**
 * The class shows just what the document's face shows; its source (the first argument) keeps what
 * can be seen of LANGUAGE.md without a compiler of one's own.
 */
final class FaceTest {
    private static final Due DUE = new Due("FaceTest");

    private static final String FACE = "act(int,int)int again()int at(int,int)long back(int)int begin(int)int "
            + "best(int,int)int came(int)int cell(int,int,int,int,int)int clear(int)int copy(int,int,int,int,int)int "
            + "count(int)int crest(int,int)int crews(int)int eye(int)int fill(int,int,int)int fits(int,int)int "
            + "gauge(int,int)int holds(int)int keep(int)int mark(int,int,int)int mend(int,int,int)int now(int,int)int "
            + "plan(int,int,int)int planless()int put(int,int,long)int reading(int,int,int)int rule(int,int,int)int "
            + "ruleless()int run(int)int sea(int)int taken(int)int tape(int,int,int)int toss(int)int "
            + "town(int,int,int,int)int trial(int,int,int)int weather(int,int,int,int)int worst(int,int,int)int";

    private static final String CONSTANTS = "CAST=-12 FULL=-2 NONE=-1 NOTHING=-11 PLACE=-13 SIZE=-14 STARTED=-3 "
            + "THROWN=-15 UNABLE=-4";

    public static void main(String[] args) throws Exception {
        DUE.is("the class is public and final",
                IceOut.class.getModifiers() & (Modifier.PUBLIC | Modifier.FINAL), Modifier.PUBLIC | Modifier.FINAL);
        same("methods", String.join(" ", shownMethods()), FACE);
        same("constants", String.join(" ", shownConstants()), CONSTANTS);
        for (Constructor<?> c : IceOut.class.getDeclaredConstructors()) {
            DUE.is("the one constructor", c.getParameterCount() == 0 && Modifier.isPublic(c.getModifiers()) ? 1 : 0, 1);
        }
        Class<?>[] thrown = IceOut.class.getMethod("at", int.class, int.class).getExceptionTypes();
        same("at throws", Arrays.toString(thrown),
                Arrays.toString(new Class<?>[] {IllegalArgumentException.class, IllegalStateException.class}));
        inside();
        source(Files.readAllLines(Path.of(args[0])));
        DUE.end();
    }

    private static void same(String what, String got, String want) {
        if (!got.equals(want)) {
            System.out.println("FaceTest: " + what + ": " + got);
        }
        DUE.is(what, got.equals(want) ? 1 : 0, 1);
    }

    private static TreeSet<String> shownMethods() {
        TreeSet<String> shown = new TreeSet<>();
        for (Method m : IceOut.class.getDeclaredMethods()) {
            if (!Modifier.isPrivate(m.getModifiers())) {
                List<String> types = new ArrayList<>();
                for (Class<?> t : m.getParameterTypes()) {
                    types.add(t.getName());
                }
                String open = Modifier.toString(m.getModifiers()).equals("public") ? "" : m.getModifiers() + "?";
                shown.add(open + m.getName() + "(" + String.join(",", types) + ")" + m.getReturnType().getName());
            }
        }
        return shown;
    }

    private static TreeSet<String> shownConstants() throws Exception {
        TreeSet<String> shown = new TreeSet<>();
        for (Field f : IceOut.class.getDeclaredFields()) {
            if (!Modifier.isPrivate(f.getModifiers())) {
                shown.add(f.getName() + "=" + f.getInt(null));
            }
            if (Modifier.isStatic(f.getModifiers())) {
                DUE.is("final: " + f.getName(), Modifier.isFinal(f.getModifiers()) ? 1 : 0, 1);
            }
        }
        return shown;
    }

    /** The classes inside: their number, their kind, the names and parameters of their methods. */
    private static void inside() {
        TreeSet<String> face = new TreeSet<>();
        for (Method m : IceOut.class.getDeclaredMethods()) {
            if (Modifier.isPublic(m.getModifiers())) {
                face.add(m.getName());
            }
        }
        List<Class<?>> all = new ArrayList<>(Arrays.asList(IceOut.class.getDeclaredClasses()));
        DUE.is("twelve classes at most", all.size() < 12 ? 1 : 0, 1);
        all.add(IceOut.class);
        for (Class<?> c : all) {
            int fields = 0;
            for (Field f : c.getDeclaredFields()) {
                fields += Modifier.isStatic(f.getModifiers()) ? 0 : 1;
            }
            DUE.is("some twenty fields in " + c.getName(), fields <= 20 ? 1 : 0, 1);
            for (Method m : c.getDeclaredMethods()) {
                String name = c.getName() + "." + m.getName();
                DUE.is("seven parameters of " + name, m.getParameterCount() <= 7 ? 1 : 0, 1);
                boolean shown = c == IceOut.class && Modifier.isPublic(m.getModifiers());
                DUE.is("no name of the face: " + name, !shown && face.contains(m.getName()) ? 1 : 0, 0);
            }
            if (c != IceOut.class) {
                DUE.is("static and not public: " + c.getName(),
                        Modifier.isStatic(c.getModifiers()) && !Modifier.isPublic(c.getModifiers()) ? 1 : 0, 1);
            }
        }
    }

    private static void source(List<String> lines) {
        String[] banned = {"->", "::", "catch", "finally", "synchronized", "assert ", "import ", "package ", "\"",
            "float", "double", "System.out", "Exact", "instanceof", "null", "Random", "Thread", "package-info"};
        int began = -1;
        int deepest = 0;
        for (int n = 0; n < lines.size(); n++) {
            String line = lines.get(n);
            String code = line.replaceAll("//.*", "").replaceAll("^\\s*/?\\*.*", "");
            for (String word : banned) {
                DUE.is("line " + (n + 1) + " without " + word, code.contains(word) ? 1 : 0, 0);
            }
            for (char c : line.toCharArray()) {
                DUE.is("line " + (n + 1) + " of signs 32 to 126", c < 32 || c > 126 ? 1 : 0, 0);
            }
            // A method begins with a brace at the depth of its class and ends with one there.
            if (code.matches("    (    )?[a-zA-Z].*\\) .*\\{") || code.matches("    (    )?[A-Za-z].*\\) \\{")) {
                began = n;
            } else if (code.matches("    (    )?\\}") && began >= 0) {
                deepest = Math.max(deepest, n - began + 1);
                began = -1;
            }
        }
        DUE.is("methods of some sixty lines (" + deepest + ")", deepest > 10 && deepest <= 60 ? 1 : 0, 1);
    }
}
