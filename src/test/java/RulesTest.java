import java.io.IOException;
import java.lang.management.ManagementFactory;
import java.lang.reflect.Array;
import java.lang.reflect.Constructor;
import java.lang.reflect.Field;
import java.lang.reflect.Method;
import java.lang.reflect.Modifier;
import java.nio.file.Files;
import java.nio.file.Path;
import java.util.ArrayList;
import java.util.List;
import java.util.Set;
import java.util.TreeSet;
import java.util.regex.Matcher;
import java.util.regex.Pattern;

/** The rules of LANGUAGE.md that can be seen from outside, and the room that a run of calls takes. */
public final class RulesTest {
    private static final String[] FACE = {
        "int feed(int,int,int,int,int)", "boolean end(int)",
        "int door() IllegalArgumentException UnsupportedOperationException", "int law() IllegalArgumentException",
        "int fault()", "int person(int,int) IndexOutOfBoundsException NoSuchElementException",
        "int face(int,int) IndexOutOfBoundsException NoSuchElementException", "int hook(int) IndexOutOfBoundsException",
        "int wish(int,int) IndexOutOfBoundsException",
        "int thinks(int,int) IndexOutOfBoundsException IllegalArgumentException",
        "int hand(int,int) IndexOutOfBoundsException IllegalStateException",
        "int fetch(int) IndexOutOfBoundsException IllegalStateException",
        "int mix(int,int) IndexOutOfBoundsException IllegalArgumentException IllegalStateException",
        "int steal(int,int) IndexOutOfBoundsException IllegalStateException",
        "int change(int,int) IndexOutOfBoundsException IllegalArgumentException IllegalStateException",
        "int shave(int,int) IndexOutOfBoundsException IllegalStateException",
        "int graft(int,int,int) IndexOutOfBoundsException IllegalArgumentException IllegalStateException",
        "int meet(int,int) IndexOutOfBoundsException IllegalArgumentException",
        "int hours(int) IllegalArgumentException", "int wrong()", "int lost()", "int unclaimed()", "int swaps()",
        "int saved()", "int marks()", "int unknown()", "int passes(int,int) IllegalArgumentException",
        "int core(int) IndexOutOfBoundsException", "int gains()", "boolean block(int) IllegalStateException",
        "int fits(int) IndexOutOfBoundsException IllegalArgumentException",
        "int ask(int) IndexOutOfBoundsException IllegalArgumentException", "int clash() IllegalArgumentException",
        "int queue(int)", "int forged(int) IllegalArgumentException", "int ways(int) IllegalArgumentException",
        "int talk(int) IndexOutOfBoundsException", "int row(boolean)",
        "int chain(int,int) IndexOutOfBoundsException IllegalArgumentException",
        "int hears(int,int) IndexOutOfBoundsException IllegalArgumentException",
        "int trial(int) IllegalArgumentException",
        "int span(int,boolean) IllegalArgumentException", "int led(int,boolean) IndexOutOfBoundsException",
        "int log(int,int) NoSuchElementException", "int seed(int)", "boolean undo()", "void image()", "boolean back()",
        "int count(int)",
    };

    public static void main(String[] args) throws IOException, IllegalAccessException {
        face();
        members();
        source();
        room();
        roomOfNew();
        Check.close();
    }

    private static String told(Method method) {
        List<String> types = new ArrayList<>();
        for (Class<?> type : method.getParameterTypes()) {
            types.add(type.getSimpleName());
        }
        StringBuilder text = new StringBuilder(method.getReturnType().getSimpleName() + " " + method.getName());
        text.append("(").append(String.join(",", types)).append(")");
        for (Class<?> thrown : method.getExceptionTypes()) {
            text.append(" ").append(thrown.getSimpleName());
        }
        return text.toString();
    }

    private static void face() {
        Set<String> got = new TreeSet<>();
        for (Method method : HungFaces.class.getDeclaredMethods()) {
            if (!Modifier.isPrivate(method.getModifiers())) {
                got.add(told(method));
            }
        }
        Check.due("the face", String.join("\n", got), String.join("\n", new TreeSet<>(List.of(FACE))));
        Check.due("public and final", HungFaces.class.getModifiers(), Modifier.PUBLIC | Modifier.FINAL);
        for (Constructor<?> made : HungFaces.class.getDeclaredConstructors()) {
            Check.due("the one constructor", made.getParameterCount(), 0);
        }
    }

    private static void members() {
        Set<String> publicNames = new TreeSet<>();
        for (Method method : HungFaces.class.getDeclaredMethods()) {
            if (Modifier.isPublic(method.getModifiers())) {
                publicNames.add(method.getName());
            }
        }
        List<Class<?>> classes = new ArrayList<>(List.of(HungFaces.class.getDeclaredClasses()));
        for (Class<?> inner : classes) {
            Check.due(inner + " is static", Modifier.isStatic(inner.getModifiers()), true);
        }
        classes.add(HungFaces.class);
        Check.due("classes", classes.size() <= 12, true);
        for (Class<?> one : classes) {
            int fields = 0;
            for (Field field : one.getDeclaredFields()) {
                boolean isStatic = Modifier.isStatic(field.getModifiers());
                fields += isStatic ? 0 : 1;
                Check.due(field + " is final if static", !isStatic || Modifier.isFinal(field.getModifiers()), true);
                Check.due(field + " is hidden", one != HungFaces.class || field.getName().equals("NONE")
                        || Modifier.isPrivate(field.getModifiers()), true);
            }
            Check.due("fields of " + one, fields <= 20, true);
            for (Method method : one.getDeclaredMethods()) {
                Check.due("parameters of " + method, method.getParameterCount() <= 7, true);
                Check.due("the name of " + method, Modifier.isPublic(method.getModifiers())
                        || !publicNames.contains(method.getName()), true);
            }
        }
    }

    private static void source() throws IOException {
        String text = Files.readString(Path.of("src/main/java/HungFaces.java"));
        String uncommented = text.replaceAll("(?s)/\\*.*?\\*/", "").replaceAll("//[^\n]*", "");
        String bare = uncommented.replaceAll("\"[^\"\n]*\"", "\"\"");
        String[] refused = {"->", "::", "\\bfinally\\b", "\\bsynchronized\\b", "\\bassert\\b", "\\bcatch\\b",
            "\\btry\\b",
            "Exact\\(", "\\bequals\\(", "\\bhashCode\\(", "\\btoString\\(", "\"\" *\\+", "\\+ *\"\"", "\\bnull\\b",
            "while \\(true\\)", "for \\(;;", "System\\.(?!arraycopy\\()", "Arrays\\.(?!fill\\()", "@", "\\bpackage\\b",
            "\\bprotected\\b", "\\[\\]\\[\\]"};
        for (String pattern : refused) {
            Check.due("not in the source: " + pattern, Pattern.compile(pattern).matcher(bare).find(), false);
        }
        Matcher imports = Pattern.compile("(?m)^import ([^;]*);").matcher(bare);
        while (imports.find()) {
            Check.due("import " + imports.group(1),
                    Set.of("java.util.Arrays", "java.util.NoSuchElementException").contains(imports.group(1)), true);
        }
        Check.due("signs 1 to 127", text.chars().allMatch(sign -> sign > 0 && sign < 128), true);
        methodLengths(bare);
    }

    private static void methodLengths(String bare) {
        String[] lines = bare.split("\n");
        int begin = -1;
        String indent = "";
        for (int i = 0; i < lines.length; i++) {
            Matcher head = Pattern.compile("^( {4}| {8})[a-z].*\\) (throws .*)?\\{$").matcher(lines[i]);
            if (begin < 0 && head.find()) {
                begin = i;
                indent = head.group(1);
            } else if (begin >= 0 && lines[i].equals(indent + "}")) {
                Check.due("lines of the method at '" + lines[begin].trim() + "'", i - begin <= 60, true);
                begin = -1;
            }
        }
    }

    private static long allocated() {
        return ((com.sun.management.ThreadMXBean) ManagementFactory.getThreadMXBean()).getCurrentThreadAllocatedBytes();
    }

    /** 7.3 million fields and elements of 4 bytes and more are the most that all calls of a run may make. */
    private static void room() {
        HungFaces x = Check.crowd(10);
        StringBuilder law = new StringBuilder("hand if 1>2");
        while (law.length() < 398) {
            law.append("+3");
        }
        Check.tape(x, law.toString());
        x.law();
        long start = allocated();
        for (int i = 0; i < 21; i++) {
            x.feed(0x68616e64, 0x20696620, 0x31203c20, 0x32202b33, 0x2b332b33);
        }
        long fed = allocated() - start;
        Check.due("feeding makes nothing", fed < 2000, true);
        x.end(0);
        start = allocated();
        for (int i = 0; i < 200; i++) {
            x.hours(50);
            x.span(30, true);
            x.gains();
            x.block(1023);
            x.swaps();
            x.marks();
            x.forged(255);
            x.hears(3, 20);
            x.ways(5);
            x.clash();
            x.ask(4);
            x.undo();
            x.image();
            x.back();
        }
        Check.due("asking and acting makes nothing", allocated() - start < 100000, true);
    }

    /** Even 512 new objects have room: 600,000 objects and arrays, 7.3 million fields and elements. */
    private static void roomOfNew() throws IllegalAccessException {
        List<Object> found = new ArrayList<>();
        found.add(new HungFaces());
        long cells = 0;
        for (int i = 0; i < found.size(); i++) {
            Object one = found.get(i);
            if (one.getClass().isArray()) {
                cells += Array.getLength(one);
                for (int k = 0; one instanceof Object[] && k < Array.getLength(one); k++) {
                    addNew(found, Array.get(one, k));
                }
                continue;
            }
            for (Class<?> type = one.getClass(); type != Object.class; type = type.getSuperclass()) {
                for (Field field : type.getDeclaredFields()) {
                    if (!Modifier.isStatic(field.getModifiers())) {
                        cells++;
                        field.setAccessible(true);
                        addNew(found, field.getType().isPrimitive() ? null : field.get(one));
                    }
                }
            }
        }
        System.out.println("a new object: " + found.size() + " objects and arrays, " + cells + " fields and elements");
        Check.due("objects of a new one", found.size() * 512 < 600000, true);
        Check.due("fields and elements of a new one", cells * 512 < 7300000, true);
    }

    private static void addNew(List<Object> found, Object one) {
        boolean known = one == null;
        for (Object other : found) {
            known |= other == one;
        }
        if (!known) {
            found.add(one);
        }
    }
}
