import java.lang.management.ManagementFactory;
import java.lang.reflect.Constructor;
import java.lang.reflect.Field;
import java.lang.reflect.Method;
import java.lang.reflect.Modifier;
import java.util.ArrayList;
import java.util.Arrays;
import java.util.HashSet;
import java.util.List;
import java.util.Set;
import java.util.TreeSet;

/** The public face, the bounds of LANGUAGE.md that reflection can see, and the room that calls take. */
public final class FaceTest {
    private static final Checks c = new Checks("FaceTest");
    private static final List<String> METHODS = List.of(
            "public int setWeight(int,int)", "public int setThreshold(int)", "public int setMoney(int,int)",
            "public int found(int,int,int,int,int,int)", "public int claim(int,int,int,int,int,int,int,int)",
            "public int match(int,int)", "public int unmatch(int)", "public int matchAll()",
            "public int deliver(int)", "public int giveUp(int)", "public int auction(int)", "public int pass(int)",
            "public int count(int)", "public int bag(int,int)", "public int claimOf(int,int)",
            "public int score(int,int,int)", "public int suggest(int,int)", "public int sameDigits(int,int)",
            "public int bestTotal()", "public int totalOfAll()", "public int thresholdFor(int,int)",
            "public int ifEnded(int,int,int)", "public int type(int)", "public int clearText()",
            "public int syntaxError()", "public int readBags()", "public int problem(int)",
            "public int undo()", "public long digest()");

    public static void main(String[] args) {
        constants();
        publicMembers();
        hiddenMembers();
        sizes();
        room();
        c.end();
    }

    private static void constants() {
        c.due("NO_SUCH", LuggageTracing.NO_SUCH, -10001);
        c.due("BAD_VALUE", LuggageTracing.BAD_VALUE, -10002);
        c.due("NOT_POSSIBLE", LuggageTracing.NOT_POSSIBLE, -10003);
        c.due("LIMIT", LuggageTracing.LIMIT, -10004);
        c.due("BAD_TEXT", LuggageTracing.BAD_TEXT, -10005);
        c.due("NONE", LuggageTracing.NONE, -10006);
    }

    private static void publicMembers() {
        Class<?> face = LuggageTracing.class;
        c.holds("the class is public and final",
                Modifier.isPublic(face.getModifiers()) && Modifier.isFinal(face.getModifiers()));
        Set<String> methods = new TreeSet<>();
        for (Method m : face.getDeclaredMethods()) {
            if (!Modifier.isPrivate(m.getModifiers())) {
                methods.add(m.toString().replace("LuggageTracing.", ""));
            }
        }
        c.holds("the methods that are not private are those of the document: " + methods,
                methods.equals(new TreeSet<>(METHODS)));
        Constructor<?>[] constructors = face.getDeclaredConstructors();
        c.holds("one constructor, public and without parameters", constructors.length == 1
                && Modifier.isPublic(constructors[0].getModifiers()) && constructors[0].getParameterCount() == 0);
        Set<String> fields = new HashSet<>();
        for (Field f : face.getDeclaredFields()) {
            if (!Modifier.isPrivate(f.getModifiers())) {
                fields.add(Modifier.toString(f.getModifiers()) + " " + f.getType() + " " + f.getName());
            }
        }
        Set<String> due = new HashSet<>();
        for (String name : List.of("NO_SUCH", "BAD_VALUE", "NOT_POSSIBLE", "LIMIT", "BAD_TEXT", "NONE")) {
            due.add("public static final int " + name);
        }
        c.holds("the fields that are not private are the constants: " + fields, fields.equals(due));
    }

    private static void hiddenMembers() {
        Set<String> names = new HashSet<>();
        for (Method m : LuggageTracing.class.getMethods()) {
            names.add(m.getName());
        }
        for (Class<?> inside : classes()) {
            if (inside != LuggageTracing.class) {
                int modifiers = inside.getModifiers();
                c.holds(inside.getName() + " is static and not public", Modifier.isStatic(modifiers)
                        && !Modifier.isPublic(modifiers) && !Modifier.isProtected(modifiers));
            }
            for (Method m : inside.getDeclaredMethods()) {
                boolean ofTheFace = inside == LuggageTracing.class && Modifier.isPublic(m.getModifiers());
                c.holds(inside.getName() + "." + m.getName() + " bears no name of the face",
                        ofTheFace || !names.contains(m.getName()));
            }
        }
    }

    private static void sizes() {
        List<Class<?>> classes = classes();
        c.holds("at most twelve classes", classes.size() <= 12);
        for (Class<?> inside : classes) {
            int fields = 0;
            for (Field f : inside.getDeclaredFields()) {
                boolean isStatic = Modifier.isStatic(f.getModifiers());
                c.holds(f + " is final if it is static", !isStatic || Modifier.isFinal(f.getModifiers()));
                fields += isStatic ? 0 : 1;
            }
            c.holds(inside.getName() + " has at most twenty fields", fields <= 20);
            for (Method m : inside.getDeclaredMethods()) {
                c.holds(m + " has at most seven parameters",
                        m.getParameterCount() <= 7 || m.getName().equals("claim"));
            }
        }
    }

    private static List<Class<?>> classes() {
        List<Class<?>> all = new ArrayList<>(Arrays.asList(LuggageTracing.class.getDeclaredClasses()));
        all.add(LuggageTracing.class);
        return all;
    }

    // All calls of a run share one room, so calls make nothing and an object takes little.
    private static void room() {
        com.sun.management.ThreadMXBean threads =
                (com.sun.management.ThreadMXBean) ManagementFactory.getThreadMXBean();
        long self = Thread.currentThread().getId();
        useForFiveHundredCalls(new LuggageTracing());
        long start = threads.getThreadAllocatedBytes(self);
        LuggageTracing x = new LuggageTracing();
        long made = threads.getThreadAllocatedBytes(self);
        useForFiveHundredCalls(x);
        long used = threads.getThreadAllocatedBytes(self);
        c.holds("a new object takes " + (made - start) + " bytes, at most 30000", made - start <= 30000);
        c.holds("500 calls take " + (used - made) + " bytes, at most 5000", used - made <= 5000);
    }

    private static void useForFiveHundredCalls(LuggageTracing x) {
        for (int i = 0; i < 12; i++) {
            x.found(i % 8, i * 1111, i, i % 8, i, i);
            x.claim(i * 1111, i % 8, i, i, 255, 100, 0, 0);
        }
        for (int i = 0; i < 39; i++) {
            x.matchAll();
            x.digest();
            x.undo();
            x.suggest(1, i);
            x.score(1, 1, 0);
            x.sameDigits(1, 1);
            x.type(49);
            x.syntaxError();
            x.readBags();
            x.setWeight(0, i);
            x.bestTotal();
            x.totalOfAll();
        }
    }
}
