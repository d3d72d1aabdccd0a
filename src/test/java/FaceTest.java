import java.lang.reflect.Field;
import java.lang.reflect.Method;
import java.lang.reflect.Modifier;
import java.util.Set;
import java.util.StringJoiner;
import java.util.TreeSet;

/** The public face of the document, nothing less and nothing more, and the room that an object takes. */
public final class FaceTest {
    private static final Set<String> CALLS = Set.of(
        "read(int, int, int, int)", "agree(int, int, int)", "states(int)", "state(int, int)",
        "letter(int, int, int)", "slips(int, int)",
        "ahead(int, int, int, boolean)", "changes(int, int, int)", "least(int)", "orders(int)",
        "first(int, int)", "before(int, int, int)",
        "piece(int, int, int)", "share(int, int)", "must(int, int)", "ring()", "presses(int)", "plans(int)",
        "day(int, int)", "beside(int, int, int)", "fewest()",
        "sheet(int, int)", "size(int)", "seen(int, int, int)", "turns(int)", "turned(int, int)",
        "bound(int, int, boolean)",
        "house(int, int)", "habit(int, int, int)", "spell(int, int, int, int)", "change(int)", "against(int, int)",
        "setting()", "who(int)", "sure(int)", "settings()", "count(int)");
    private static final Set<String> CONSTANTS = Set.of("UNKNOWN", "OUTSIDE", "STATE", "NONE");

    public static void main(String[] args) {
        Class<?> c = PressSheets.class;
        Check.holds("public and final", Modifier.isPublic(c.getModifiers()) && Modifier.isFinal(c.getModifiers()));
        Check.holds("of no other class", c.getSuperclass() == Object.class && c.getInterfaces().length == 0);
        Check.holds("no package", c.getPackageName().isEmpty());
        Check.due("one constructor", c.getDeclaredConstructors().length, 1);
        Check.due("it is public", c.getConstructors().length, 1);
        Check.due("it takes nothing", c.getDeclaredConstructors()[0].getParameterCount(), 0);
        constants(c);
        calls(c);
        Check.due("classes inside that can be seen", c.getClasses().length, 0);
        room();
        Check.finish();
    }

    private static void constants(Class<?> c) {
        Check.due("UNKNOWN", PressSheets.UNKNOWN, -900001);
        Check.due("OUTSIDE", PressSheets.OUTSIDE, -900002);
        Check.due("STATE", PressSheets.STATE, -900003);
        Check.due("NONE", PressSheets.NONE, -900009);
        int ofFace = 0;
        for (Field f : c.getDeclaredFields()) {
            int how = f.getModifiers();
            if (CONSTANTS.contains(f.getName())) {
                ofFace++;
                Check.holds(f.getName() + " is a public constant",
                    Modifier.isPublic(how) && Modifier.isStatic(how) && Modifier.isFinal(how));
                Check.holds(f.getName() + " is an int", f.getType() == int.class);
            } else {
                Check.holds(f.getName() + " is private", Modifier.isPrivate(how));
            }
        }
        Check.due("all constants", ofFace, CONSTANTS.size());
    }

    private static void calls(Class<?> c) {
        Set<String> found = new TreeSet<>();
        for (Method m : c.getDeclaredMethods()) {
            int how = m.getModifiers();
            if (Modifier.isPublic(how)) {
                found.add(line(m));
                Check.holds(line(m) + " answers an int", m.getReturnType() == int.class);
                Check.holds(line(m) + " is an object's", !Modifier.isStatic(how));
            } else {
                Check.holds(line(m) + " is private", Modifier.isPrivate(how));
            }
        }
        for (String call : CALLS) {
            Check.holds(call + " is there", found.contains(call));
        }
        Check.due("no other", found.size(), CALLS.size());
        Check.due("all calls of the document", CALLS.size(), 37);
    }

    private static String line(Method m) {
        StringJoiner types = new StringJoiner(", ", m.getName() + "(", ")");
        for (Class<?> type : m.getParameterTypes()) {
            types.add(type.getName());
        }
        return types.toString();
    }

    /** All rows are made with the object: 512 objects fit into the room of one run. */
    private static void room() {
        int elements = Room.elements(new PressSheets());
        int objects = Room.objects(new PressSheets());
        System.out.println("an object holds " + objects + " objects, " + elements + " fields and elements");
        Check.holds("elements", elements * 512L < 7_300_000L);
        Check.holds("objects", objects * 512L < 600_000L);
    }
}
