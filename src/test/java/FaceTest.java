import com.sun.management.ThreadMXBean;
import java.io.IOException;
import java.lang.management.ManagementFactory;
import java.lang.reflect.Constructor;
import java.lang.reflect.Field;
import java.lang.reflect.Method;
import java.lang.reflect.Modifier;
import java.nio.file.Files;
import java.nio.file.Path;
import java.util.Arrays;
import java.util.Set;
import java.util.TreeSet;

/** The public face is the document's and nothing more, the file keeps to LANGUAGE.md, and no call makes objects. */
public final class FaceTest {
    private static final String[] FACE = {
        "boolean paint int int int int int", "boolean slope int int", "int sample int int",
        "boolean filter int int int", "boolean slices int int boolean", "boolean ease int int", "boolean rate int int",
        "int bands", "long coefficient int int", "int encode", "int byteAt int", "boolean poke int int",
        "int index int", "int used int", "int nonzero int", "int decode", "int decoded int int", "long rebuilt int int",
        "int error",
    };
    private static final String[] RULED_OUT = {"throw", "try", "catch", "synchronized", "assert", "package"};
    private static final String[] IMPORTS = {"Arrays", "ArrayList", "List", "Iterator"};
    private static final Path FILE = Path.of("src/main/java/WaveletSlices.java");
    private static final int CALLS_OF_ALL = 19;

    /** 7.3 million elements of four bytes at the least; this program makes no object in any call. */
    private static final int BYTES_OF_A_RUN = 4 * 7_300_000;

    private static Check check;

    public static void main(String[] args) throws IOException {
        check = new Check("FaceTest");
        face();
        classesInside();
        file();
        room();
        check.end();
    }

    private static void face() {
        Class<?> c = WaveletSlices.class;
        check.yes("public and final", Modifier.isPublic(c.getModifiers()) && Modifier.isFinal(c.getModifiers()));
        Set<String> open = new TreeSet<>();
        Set<String> closed = new TreeSet<>();
        for (Method m : c.getDeclaredMethods()) {
            StringBuilder told = new StringBuilder(m.getReturnType() + " " + m.getName());
            for (Class<?> p : m.getParameterTypes()) {
                told.append(' ').append(p);
            }
            if (Modifier.isPrivate(m.getModifiers())) {
                closed.add(m.getName());
            } else {
                check.yes(told + " is public", Modifier.isPublic(m.getModifiers()));
                check.no(told + " is static", Modifier.isStatic(m.getModifiers()));
                open.add(told.toString());
            }
        }
        check.yes("methods " + open, open.equals(new TreeSet<>(Arrays.asList(FACE))));
        for (String one : FACE) {
            check.no("a private " + one, closed.contains(one.split(" ")[1]));
        }
        for (Field f : c.getDeclaredFields()) {
            boolean none = f.getName().equals("NONE");
            int seen = f.getModifiers() & (Modifier.PUBLIC | Modifier.PRIVATE);
            check.due(f.getName(), seen, none ? Modifier.PUBLIC : Modifier.PRIVATE);
        }
        check.due("NONE", WaveletSlices.NONE, -1000);
        check.due("constructors", c.getDeclaredConstructors().length, 1);
        for (Constructor<?> k : c.getDeclaredConstructors()) {
            check.yes("the constructor is public", Modifier.isPublic(k.getModifiers()));
            check.yes("constructor", Arrays.equals(k.getParameterTypes(), new Class<?>[] {int.class, int.class}));
        }
    }

    private static void classesInside() {
        Class<?>[] inside = WaveletSlices.class.getDeclaredClasses();
        check.yes("at most twelve classes", inside.length < 12);
        for (Class<?> c : inside) {
            check.yes(c + " is static", Modifier.isStatic(c.getModifiers()));
            check.no(c + " is public", Modifier.isPublic(c.getModifiers()));
        }
        Class<?>[] all = Arrays.copyOf(inside, inside.length + 1);
        all[inside.length] = WaveletSlices.class;
        for (Class<?> c : all) {
            int fields = 0;
            for (Field f : c.getDeclaredFields()) {
                boolean isStatic = Modifier.isStatic(f.getModifiers());
                check.no(f + " is static and not final", isStatic && !Modifier.isFinal(f.getModifiers()));
                fields += isStatic ? 0 : 1;
            }
            check.yes(c + " has at most twenty fields", fields <= 20);
            for (Method m : c.getDeclaredMethods()) {
                check.yes(m + " has at most seven parameters", m.getParameterCount() <= 7);
                check.no(m + " is a lambda", m.getName().startsWith("lambda$"));
            }
        }
    }

    private static void file() throws IOException {
        String text = Files.readString(FILE);
        String code = text.replaceAll("(?s)/\\*.*?\\*/", " ").replaceAll("//[^\n]*", " ");
        Set<String> words = new TreeSet<>(Arrays.asList(code.split("\\W+")));
        for (String word : RULED_OUT) {
            check.no("the word " + word, words.contains(word));
        }
        check.no("a method reference", code.contains("::"));
        check.no("a static initialiser block", code.matches("(?s).*\\bstatic\\s*\\{.*"));
        Set<String> imports = new TreeSet<>();
        for (String name : IMPORTS) {
            imports.add("import java.util." + name + ";");
        }
        for (String line : code.split("\n")) {
            check.no(line, line.startsWith("import") && !imports.contains(line.trim()));
        }
    }

    /** All calls of a run live in one room of some 7.3 million fields and elements, and nothing is ever given back. */
    private static void room() {
        ThreadMXBean bean = (ThreadMXBean) ManagementFactory.getThreadMXBean();
        long me = Thread.currentThread().getId();
        everyCall(new WaveletSlices(16, 16));
        long before = bean.getThreadAllocatedBytes(me);
        WaveletSlices x = new WaveletSlices(16, 16);
        for (int i = 0; i < Run.MOST_CALLS / CALLS_OF_ALL; i++) {
            everyCall(x);
        }
        long mixed = bean.getThreadAllocatedBytes(me) - before;
        check.yes("bytes made by a run of all calls: " + mixed, mixed < BYTES_OF_A_RUN);
        WaveletSlices y = new WaveletSlices(16, 16);
        for (int i = 0; i < Run.MOST_CALLS; i++) {
            y.encode();
        }
        long writing = bean.getThreadAllocatedBytes(me) - before - mixed;
        check.yes("bytes made by a run of writing: " + writing, writing < BYTES_OF_A_RUN);
    }

    private static void everyCall(WaveletSlices x) {
        x.filter(5, 2, 1);
        x.slices(4, 4, true);
        x.ease(0, 15);
        x.rate(5, 2);
        x.paint(1, 1, 9, 9, 100);
        x.slope(-3, 5);
        x.encode();
        x.poke(3, 0);
        x.decode();
        long sum = x.sample(1, 1) + x.bands() + x.coefficient(2, 2) + x.byteAt(1) + x.index(2) + x.used(3)
            + x.nonzero(4) + x.decoded(5, 5) + x.rebuilt(6, 6) + x.error();
        check.no("a sum that can't be", sum == Long.MAX_VALUE);
    }
}
