import java.lang.reflect.Constructor;
import java.lang.reflect.Field;
import java.lang.reflect.Method;
import java.lang.reflect.Modifier;
import java.nio.file.Files;
import java.nio.file.Path;
import java.util.Set;
import java.util.TreeSet;
import java.util.regex.Pattern;

/** The public face of the document, and rules of LANGUAGE.md that can be read off classes and source. */
public final class FaceTest {
    private static final Due due = new Due("FaceTest");
    private static final Set<String> FACE = Set.of("clear/0", "note/3", "move/4", "weigh/2", "put/2", "find/1", "least/1",
        "along/1", "cost/1", "of/2", "ranked/1", "sounding/1", "needed/0", "rests/1", "rest/3", "pairs/1", "pair/3", "voice/2", "told/1");

    public static void main(String[] args) throws Exception {
        constants();
        constructors();
        methods();
        nested();
        source(Files.readString(Path.of("src/main/java/VoiceRows.java")));
        due.end();
    }

    private static void constants() {
        due.is("NONE", VoiceRows.NONE, -1);
        due.is("RANGE", VoiceRows.RANGE, -2);
        due.is("STATE", VoiceRows.STATE, -3);
        due.is("FULL", VoiceRows.FULL, -4);
        Set<String> open = new TreeSet<>();
        for (Field f : VoiceRows.class.getDeclaredFields()) {
            if (!Modifier.isPrivate(f.getModifiers())) open.add(f.getName());
            due.holds(f.getName() + " is final", Modifier.isFinal(f.getModifiers()));
        }
        due.holds("only the constants are open: " + open, open.equals(Set.of("NONE", "RANGE", "STATE", "FULL")));
    }

    private static void constructors() {
        Constructor<?>[] all = VoiceRows.class.getDeclaredConstructors();
        due.is("constructors", all.length, 1);
        due.is("its parameters", all[0].getParameterCount(), 0);
        due.holds("it is public", Modifier.isPublic(all[0].getModifiers()));
        int mine = VoiceRows.class.getModifiers();
        due.holds("the class is public and final", Modifier.isPublic(mine) && Modifier.isFinal(mine));
    }

    private static void methods() {
        Set<String> open = new TreeSet<>();
        for (Method m : VoiceRows.class.getDeclaredMethods()) {
            if (Modifier.isPrivate(m.getModifiers())) continue;
            open.add(m.getName() + "/" + m.getParameterCount());
            due.holds(m + " is public and answers an int", Modifier.isPublic(m.getModifiers()) && m.getReturnType() == int.class
                && !Modifier.isStatic(m.getModifiers()));
        }
        due.holds("the methods are those of the document: " + open, open.equals(FACE));
    }

    private static void nested() {
        Class<?>[] inside = VoiceRows.class.getDeclaredClasses();
        due.holds("at most twelve classes", inside.length <= 12);
        for (Class<?> c : inside) {
            due.holds(c + " is static and private", Modifier.isStatic(c.getModifiers()) && Modifier.isPrivate(c.getModifiers()));
            due.holds(c + " has at most twenty fields", c.getDeclaredFields().length <= 20);
            for (Method m : c.getDeclaredMethods()) {
                due.holds(m + " has a name of its own", FACE.stream().noneMatch(f -> f.startsWith(m.getName() + "/")));
                due.holds(m + " takes at most seven", m.getParameterCount() <= 7);
            }
        }
    }

    private static void source(String text) {
        String code = text.replaceAll("(?s)/\\*.*?\\*/", "").replaceAll("//[^\n]*", "");
        String[] banned = {"throw", "throws", "try", "catch", "synchronized", "assert", "package", "protected", "Object", "System\\.(?!arraycopy)\\w+",
            "\\w+Exact", "import (?!java\\.util\\.Arrays;)[\\w.]+", "static \\{"};
        for (String word : banned) {
            due.holds("no " + word, !Pattern.compile("\\b(?:" + word + ")(?!\\w)").matcher(code).find());
        }
        due.holds("no lambda, no method reference", !code.contains("->") && !code.contains("::"));
    }
}
