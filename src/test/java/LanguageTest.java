import java.io.IOException;
import java.lang.management.ManagementFactory;
import java.lang.reflect.Array;
import java.lang.reflect.Constructor;
import java.lang.reflect.Field;
import java.lang.reflect.Method;
import java.lang.reflect.Modifier;
import java.nio.file.Files;
import java.nio.file.Path;
import java.util.ArrayDeque;
import java.util.Collections;
import java.util.Deque;
import java.util.IdentityHashMap;
import java.util.Set;
import java.util.TreeSet;

/** What the class keeps to beside its answers: its face, the part of Java that it is written in, its room. */
final class LanguageTest {
    private static final Check CHECK = new Check();
    private static final String SOURCE = "src/main/java/TwinLamps.java";
    private static final String[] FACE = {
        "int feed(int,int,int,int,int)", "int street(int) IllegalArgumentException", "int fault()",
        "int count(int) NoSuchElementException", "int house(int,int) NoSuchElementException",
        "int lamp(int,int) NoSuchElementException", "int hours(int)", "int flick(int) NoSuchElementException",
        "int trim(int,int) NoSuchElementException", "boolean breaks(int) NoSuchElementException",
        "int give(int,int) NoSuchElementException", "int sleep(int,int,int) NoSuchElementException", "int undo()",
        "int then(int) IllegalArgumentException",
        "int burnt(int,int) NoSuchElementException IllegalArgumentException",
        "int shining(int,int) NoSuchElementException IllegalArgumentException", "int soonest(int) NoSuchElementException",
        "int busiest(int) NoSuchElementException", "int lasts(int) NoSuchElementException",
        "int grief(int,int) NoSuchElementException IllegalArgumentException", "int quarrels(int) IllegalArgumentException",
        "int joined(int,int) NoSuchElementException", "int strife(int,int) NoSuchElementException",
        "int better(int) NoSuchElementException", "int treaty(int) NoSuchElementException",
        "int fund(int) NoSuchElementException", "int signals(int) IllegalArgumentException",
        "int see(int,int,boolean) NoSuchElementException", "int whose(int) NoSuchElementException",
        "int look(int,int) NoSuchElementException", "void forget()",
        "int game(int,int,int) NoSuchElementException IllegalArgumentException",
        "int winter(int,int,int) NoSuchElementException IllegalArgumentException", "void image()", "boolean restore()"};

    private static int made = 0;
    private static int held = 0;

    public static void main(String[] args) throws IOException, IllegalAccessException {
        face();
        namesOfPrivateMethods();
        source();
        roomOfAnObject();
        roomOfCalls();
        CHECK.end();
    }

    private static void face() {
        Set<String> due = new TreeSet<>(Set.of(FACE));
        Set<String> got = new TreeSet<>();
        for (Method m : TwinLamps.class.getDeclaredMethods()) {
            if (!Modifier.isPrivate(m.getModifiers()) && !m.isSynthetic()) {
                StringBuilder name = new StringBuilder(m.getReturnType() + " " + m.getName() + "(");
                for (int i = 0; i < m.getParameterCount(); i++) {
                    name.append(i == 0 ? "" : ",").append(m.getParameterTypes()[i]);
                }
                name.append(')');
                for (Class<?> e : m.getExceptionTypes()) {
                    name.append(' ').append(e.getSimpleName());
                }
                got.add(name.toString());
            }
        }
        same("methods", got, due);
        Set<String> fields = new TreeSet<>();
        for (Field f : TwinLamps.class.getDeclaredFields()) {
            if (!Modifier.isPrivate(f.getModifiers())) {
                fields.add(Modifier.toString(f.getModifiers()) + " " + f.getType() + " " + f.getName());
            }
        }
        same("fields", fields, Set.of("public static final int NONE"));
        Constructor<?>[] constructors = TwinLamps.class.getDeclaredConstructors();
        CHECK.due("constructors", constructors.length, 1);
        CHECK.due("its parameters", constructors[0].getParameterCount(), 0);
        CHECK.due("it is public", Modifier.isPublic(constructors[0].getModifiers()), true);
        CHECK.due("the class is public and final", TwinLamps.class.getModifiers(), Modifier.PUBLIC | Modifier.FINAL);
        CHECK.due("classes inside", TwinLamps.class.getDeclaredClasses().length <= 12, true);
        for (Class<?> c : TwinLamps.class.getDeclaredClasses()) {
            CHECK.due(c.getName() + " is static", Modifier.isStatic(c.getModifiers()), true);
            CHECK.due(c.getName() + " is private", Modifier.isPrivate(c.getModifiers()), true);
            CHECK.due(c.getName() + " has few fields", fieldsOf(c) <= 20, true);
        }
    }

    private static int fieldsOf(Class<?> c) {
        int many = 0;
        for (Field f : c.getDeclaredFields()) {
            many += Modifier.isStatic(f.getModifiers()) ? 0 : 1;
            boolean isConstant = Modifier.isStatic(f.getModifiers()) && Modifier.isFinal(f.getModifiers());
            CHECK.due(f + " is of an object, or a constant", !Modifier.isStatic(f.getModifiers()) || isConstant, true);
        }
        return many;
    }

    private static void namesOfPrivateMethods() {
        Set<String> names = new TreeSet<>();
        for (Method m : TwinLamps.class.getDeclaredMethods()) {
            if (Modifier.isPublic(m.getModifiers())) {
                names.add(m.getName());
            }
        }
        for (Method m : TwinLamps.class.getDeclaredMethods()) {
            CHECK.due(m + " has a name of its own", Modifier.isPublic(m.getModifiers()) || !names.contains(m.getName()), true);
        }
        for (Class<?> c : TwinLamps.class.getDeclaredClasses()) {
            for (Method m : c.getDeclaredMethods()) {
                CHECK.due(m + " has a name of its own", !names.contains(m.getName()), true);
                CHECK.due(m + " takes few parameters", m.getParameterCount() <= 7, true);
            }
        }
    }

    private static void source() throws IOException {
        String text = Files.readString(Path.of(SOURCE));
        String code = text.replaceAll("(?s)/\\*.*?\\*/", " ").replaceAll("//[^\n]*", " ").replaceAll("\"[^\"]*\"", "\"\"");
        for (String none : new String[] {"->", "::", "@", "package ", "Exact(", "MAX_VALUE", "MIN_VALUE", "static {"}) {
            CHECK.due("no " + none, code.contains(none), false);
        }
        for (String none : new String[] {"try", "catch", "finally", "synchronized", "assert", "var", "instanceof", "equals",
            "hashCode", "toString", "Object", "float", "double", "Thread", "Random", "nanoTime", "currentTimeMillis", "out"}) {
            CHECK.due("no " + none, code.matches("(?s).*\\b" + none + "\\b.*"), false);
        }
        CHECK.due("one import", code.split("\\bimport\\b", -1).length, 2);
        CHECK.due("of NoSuchElementException", code.contains("import java.util.NoSuchElementException;"), true);
        String allowed = text.chars().allMatch(c -> c == '\n' || c >= 32 && c < 127) ? "" : "other signs";
        CHECK.due("signs 32 to 126 alone " + allowed, allowed.isEmpty(), true);
        int start = 0;
        int number = 0;
        for (String line : text.split("\n")) {
            number++;
            if (line.matches(" {4,8}\\S.*[)a-zA-Z] \\{")) {
                start = number;
            } else if (line.matches(" {4,8}\\}")) {
                CHECK.due("lines of the method or class that ends at " + number, number - start <= 60, true);
            }
        }
    }

    /** All that hangs on a new object, counted: objects and arrays, fields and elements. */
    private static void roomOfAnObject() throws IllegalAccessException {
        Set<Object> known = Collections.newSetFromMap(new IdentityHashMap<>());
        Deque<Object> waiting = new ArrayDeque<>();
        waiting.add(new TwinLamps());
        while (!waiting.isEmpty()) {
            Object o = waiting.poll();
            if (!known.add(o)) {
                continue;
            }
            made++;
            if (o.getClass().isArray()) {
                countArray(o, waiting);
            } else {
                countFields(o, waiting);
            }
        }
        CHECK.due("objects and arrays: " + made, made < 2000, true);
        CHECK.due("fields and elements: " + held, held < 30000, true);
    }

    private static void countArray(Object o, Deque<Object> waiting) {
        held += Array.getLength(o);
        for (int i = 0; i < Array.getLength(o) && !o.getClass().getComponentType().isPrimitive(); i++) {
            waiting.add(Array.get(o, i));
        }
    }

    private static void countFields(Object o, Deque<Object> waiting) throws IllegalAccessException {
        for (Field f : o.getClass().getDeclaredFields()) {
            if (!Modifier.isStatic(f.getModifiers())) {
                held++;
                f.setAccessible(true);
                if (!f.getType().isPrimitive()) {
                    waiting.add(f.get(o));
                }
            }
        }
    }

    /** A call makes nothing: its rows are those of the object. */
    private static void roomOfCalls() {
        TwinLamps x = Check.street("home 0 0;tower 3 9;ballroom 20 4;" + "lamp 0 50;lamp 1 60;lamp 2 40;".repeat(4)
                + "twins 0 1;twins 2 3;twins 4 5;twins 6 7;twins 8 9;twins 10 11;wants hour/2*2=hour and house<2 or oil<50;");
        com.sun.management.ThreadMXBean threads = (com.sun.management.ThreadMXBean) ManagementFactory.getThreadMXBean();
        long thread = Thread.currentThread().getId();
        dearCalls(x);
        threads.getThreadAllocatedBytes(thread);
        long before = threads.getThreadAllocatedBytes(thread);
        dearCalls(x);
        long after = threads.getThreadAllocatedBytes(thread);
        CHECK.due("bytes made by calls: " + (after - before), after - before < 2000, true);
    }

    private static void dearCalls(TwinLamps x) {
        for (int i = 0; i < 12; i++) {
            x.hours(5);
            x.flick(i);
            x.trim(i, 44);
            x.trim(i ^ 1, 44);
            x.see(i, 7, true);
            x.whose(i);
            x.look(i, 1);
            x.better(i);
            x.treaty(i % 3);
            x.winter(i, 96, 0);
            x.game(i, i ^ 1, 1);
            x.joined(0, 2);
            x.image();
            x.restore();
            x.undo();
            x.forget();
            x.feed(0x20202020, 0x20202020, 0x20202020, 0x20202020, 0x20202020);
        }
    }

    private static void same(String what, Set<String> got, Set<String> due) {
        for (String one : got) {
            CHECK.due(what + ", one more: " + one, due.contains(one), true);
        }
        for (String one : due) {
            CHECK.due(what + ", one less: " + one, got.contains(one), true);
        }
    }
}
