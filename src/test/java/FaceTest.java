import java.io.IOException;
import java.lang.reflect.Constructor;
import java.lang.reflect.Field;
import java.lang.reflect.Method;
import java.lang.reflect.Modifier;
import java.nio.file.Files;
import java.nio.file.Path;
import java.util.Set;
import java.util.TreeSet;
import java.util.regex.Matcher;
import java.util.regex.Pattern;

/** The public face just as it must stand, and what of LANGUAGE.md can be seen by looking at the file. */
public final class FaceTest {
    private static final Check CHECK = new Check("FaceTest");
    private static final String[] FACE = {"node(int,int)", "count(int)", "would(int)", "team(int,int)",
        "fewest(int,int,int)", "plan(int,int,int)", "rest(int)", "lost(int,int)", "act(int)", "link(int,int,int)",
        "tell(int,int)", "type(int)", "read()", "drift(int)", "undo()", "seed(int)", "image()", "restore()",
        "allowed(int,int,int,int)", "film(int,int,int)", "sheet(int,int,int)", "drop(int)", "item(int,int,int,long)",
        "copy(int,int,int,int,int)"};
    private static final String[] FORBIDDEN = {"throw", "throws", "try", "catch", "finally", "synchronized", "assert",
        "import", "package", "protected", "hashCode", "toString", "native", "volatile", "transient", "var", "Exact",
        "Object", "Random", "nanoTime", "currentTimeMillis", "out", "err"};

    public static void main(String[] args) throws IOException {
        constants();
        methods();
        nestedClasses();
        source();
        CHECK.end();
    }

    private static void constants() {
        int[] got = {CleanNets.BAD, CleanNets.NOT, CleanNets.FULL, CleanNets.NONE, CleanNets.NULL, CleanNets.CAST,
            CleanNets.INDEX, CleanNets.SIZE};
        int[] due = {-1, -2, -3, -4, -11, -12, -13, -14};
        for (int k = 0; k < due.length; k++) {
            CHECK.due("constant " + k, got[k], due[k]);
        }
        int shown = 0;
        for (Field f : CleanNets.class.getDeclaredFields()) {
            boolean isPublic = Modifier.isPublic(f.getModifiers());
            shown += isPublic ? 1 : 0;
            CHECK.holds("field " + f.getName() + " is public or private", isPublic || Modifier.isPrivate(f.getModifiers()));
        }
        CHECK.due("public constants", shown, due.length);
    }

    private static void methods() {
        Set<String> due = Set.of(FACE);
        Set<String> got = new TreeSet<>();
        Set<String> publicNames = new TreeSet<>();
        for (Method m : CleanNets.class.getDeclaredMethods()) {
            if (Modifier.isPublic(m.getModifiers())) {
                got.add(m.toString().replaceAll("public int CleanNets\\.", ""));
                publicNames.add(m.getName());
            }
        }
        CHECK.holds("public methods are " + due, got.equals(due));
        for (Method m : CleanNets.class.getDeclaredMethods()) {
            boolean isPrivate = Modifier.isPrivate(m.getModifiers());
            CHECK.holds(m + " is public or private", isPrivate || Modifier.isPublic(m.getModifiers()));
            CHECK.holds(m + " has a name of its own", !isPrivate || !publicNames.contains(m.getName()));
        }
        Constructor<?>[] made = CleanNets.class.getDeclaredConstructors();
        CHECK.due("constructors", made.length, 1);
        CHECK.holds("public constructor without parameters",
                Modifier.isPublic(made[0].getModifiers()) && made[0].getParameterCount() == 0);
        CHECK.holds("public and final", CleanNets.class.getModifiers() == (Modifier.PUBLIC | Modifier.FINAL));
    }

    private static void nestedClasses() {
        Class<?>[] inside = CleanNets.class.getDeclaredClasses();
        CHECK.holds("at most twelve classes", inside.length < 12);
        for (Class<?> c : inside) {
            int m = c.getModifiers();
            CHECK.holds(c + " is static and not seen", Modifier.isStatic(m) && !Modifier.isPublic(m) && !Modifier.isProtected(m));
            CHECK.holds(c + " has at most twenty fields", c.getDeclaredFields().length <= 20);
            for (Method method : c.getDeclaredMethods()) {
                CHECK.holds(method + " has at most seven parameters", method.getParameterCount() <= 7);
                CHECK.holds(method + " bears no name of the face",
                        java.util.Arrays.stream(FACE).noneMatch(f -> f.startsWith(method.getName() + "(")));
            }
        }
    }

    private static void source() throws IOException {
        String text = Files.readString(Path.of("src/main/java/CleanNets.java"));
        String code = text.replaceAll("(?s)/\\*.*?\\*/", "").replaceAll("//[^\n]*", "").replaceAll("\"[^\"]*\"", "\"\"");
        Matcher words = Pattern.compile("[A-Za-z_]+").matcher(code);
        Set<String> used = new TreeSet<>();
        while (words.find()) {
            used.add(words.group());
        }
        for (String word : FORBIDDEN) {
            CHECK.holds("without " + word, !used.contains(word));
        }
        CHECK.holds("no lambda", !code.contains("->"));
        CHECK.holds("no method reference", !code.contains("::"));
        CHECK.holds("no annotation", !code.contains("@"));
        CHECK.holds("plain signs alone", text.chars().allMatch(c -> c == '\n' || c >= 32 && c < 127));
    }
}
