import java.io.IOException;
import java.lang.reflect.Field;
import java.lang.reflect.Method;
import java.lang.reflect.Modifier;
import java.nio.file.Files;
import java.nio.file.Path;
import java.util.Arrays;
import java.util.Set;
import java.util.TreeSet;
import java.util.regex.Matcher;
import java.util.regex.Pattern;

/** The public face, and what of LANGUAGE.md a test can see. */
public final class FaceTest {
    private static final String[] CALLS = {
        "read", "agree", "states", "state", "letter", "slips",
        "ahead", "changes", "least", "orders", "first", "before",
        "piece", "share", "must", "ring", "presses", "plans", "day", "beside", "fewest",
        "sheet", "size", "seen", "turns", "turned", "bound",
        "house", "habit", "spell", "change", "against", "setting", "who", "sure", "settings", "count"};
    private static final String[] CONSTANTS = {"UNKNOWN", "OUTSIDE", "STATE", "NONE"};
    private static final String[] BANNED = {
        "\\bthrow\\b", "\\btry\\b", "\\bcatch\\b", "\\bassert\\b", "\\bsynchronized\\b", "->", "::",
        "\\w+Exact\\b", "\\bSystem\\.(?!arraycopy\\b)", "\\bRandom\\b", "\\bThread\\b", "\\bObject\\b"};

    public static void main(String[] args) throws IOException {
        constants();
        members();
        nestedClasses();
        source();
        room();
        Check.finish();
    }

    private static void constants() {
        Check.due("UNKNOWN", PressSheets.UNKNOWN, -900001);
        Check.due("OUTSIDE", PressSheets.OUTSIDE, -900002);
        Check.due("STATE", PressSheets.STATE, -900003);
        Check.due("NONE", PressSheets.NONE, -900009);
    }

    private static void members() {
        Class<?> c = PressSheets.class;
        Check.holds("public and final", Modifier.isPublic(c.getModifiers()) && Modifier.isFinal(c.getModifiers()));
        Check.due("one constructor", c.getDeclaredConstructors().length, 1);
        Check.due("it is public", c.getConstructors().length, 1);
        Set<String> seen = new TreeSet<>();
        for (Method m : c.getDeclaredMethods()) {
            boolean ofFace = Arrays.asList(CALLS).contains(m.getName());
            Check.holds(m.getName() + " is as the face says", ofFace == Modifier.isPublic(m.getModifiers()));
            Check.holds(m.getName() + " is of the face, or private", ofFace || Modifier.isPrivate(m.getModifiers()));
            if (ofFace) {
                Check.holds(m.getName() + " is there once", seen.add(m.getName()));
                Check.holds(m.getName() + " answers an int", m.getReturnType() == int.class);
            }
        }
        Check.due("all calls", seen.size(), 37);
        for (Field f : c.getDeclaredFields()) {
            boolean ofFace = Arrays.asList(CONSTANTS).contains(f.getName());
            Check.holds(f.getName() + " is of the face, or private",
                ofFace ? Modifier.isPublic(f.getModifiers()) : Modifier.isPrivate(f.getModifiers()));
        }
    }

    private static void nestedClasses() {
        Class<?>[] inside = PressSheets.class.getDeclaredClasses();
        Check.holds("at most twelve classes", inside.length < 12);
        for (Class<?> c : inside) {
            Check.holds(c.getName() + " is static", Modifier.isStatic(c.getModifiers()));
            int fields = 0;
            for (Field f : c.getDeclaredFields()) {
                boolean isStatic = Modifier.isStatic(f.getModifiers());
                Check.holds(f.getName() + " is final, if static", !isStatic || Modifier.isFinal(f.getModifiers()));
                fields += isStatic ? 0 : 1;
            }
            Check.holds(c.getName() + " has at most twenty fields", fields <= 20);
            for (Method m : c.getDeclaredMethods()) {
                Check.holds(m.getName() + " is no name of the face", !Arrays.asList(CALLS).contains(m.getName()));
                Check.holds(m.getName() + " takes at most seven", m.getParameterCount() <= 7);
            }
        }
    }

    /** .ci/run starts the tests in the project's folder. */
    private static void source() throws IOException {
        String text = Files.readString(Path.of("src/main/java/PressSheets.java"));
        String code = text.replaceAll("(?s)/\\*.*?\\*/", "").replaceAll("//[^\n]*", "");
        for (String word : BANNED) {
            Matcher found = Pattern.compile(word).matcher(code);
            Check.holds("no " + word, !found.find());
        }
        Matcher imports = Pattern.compile("import ([^;]*);").matcher(code);
        while (imports.find()) {
            Check.holds("import " + imports.group(1), imports.group(1).equals("java.util.Arrays"));
        }
        Check.holds("no package line", !Pattern.compile("(?m)^package ").matcher(code).find());
    }

    /** All rows are made with the object: 512 objects fit into the room of one run. */
    private static void room() {
        int elements = Room.elements(new PressSheets());
        int objects = Room.objects(new PressSheets());
        System.out.println("an object holds " + objects + " objects, " + elements + " fields and elements");
        Check.holds("elements", elements * 512L < 7_300_000L);
        Check.holds("objects", objects * 512L < 600_000L);
    }
}
