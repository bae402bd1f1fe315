import java.io.IOException;
import java.lang.reflect.Constructor;
import java.lang.reflect.Field;
import java.lang.reflect.Member;
import java.lang.reflect.Method;
import java.lang.reflect.Modifier;
import java.nio.file.Files;
import java.nio.file.Path;
import java.util.Arrays;
import java.util.Random;
import java.util.Set;
import java.util.TreeSet;

/** The face is the document's and no more, and no call ever throws, whatever it is given. */
public final class FaceTest {
    private static final String[] FACE = {
        "write 1", "wipe 0", "fault 0", "lay 0", "place 2", "way 2", "door 2", "beast 2", "sign 2", "send 3",
        "pass 1", "home 1", "carrots 2", "undo 0", "arrives 1", "reading 1", "right 2", "soonest 2", "tell 3",
        "deal 2", "lure 1", "next 2", "meet 2", "told 2", "who 3", "balks 4", "year 3", "keep 0", "back 0", "count 1"};

    public static void main(String[] args) throws ReflectiveOperationException, IOException {
        face();
        faceOfTheDocument();
        nested();
        anyNumbers();
        Check.finish();
    }

    private static void face() {
        Class<?> c = DonkeyVerdicts.class;
        Check.due("the class is public and final", c.getModifiers() & (Modifier.PUBLIC | Modifier.FINAL),
            Modifier.PUBLIC | Modifier.FINAL);
        Set<String> seen = new TreeSet<>();
        for (Method m : c.getDeclaredMethods()) {
            if (Modifier.isPublic(m.getModifiers())) {
                seen.add(m.getName() + " " + m.getParameterCount());
                Check.due(m + " answers an int", m.getReturnType() == int.class ? 1 : 0, 1);
                for (Class<?> number : m.getParameterTypes()) {
                    Check.due(m + " takes ints", number == int.class ? 1 : 0, 1);
                }
            } else {
                onlyPrivate(m);
            }
        }
        Check.due("methods " + seen, seen.equals(new TreeSet<>(Arrays.asList(FACE))) ? 1 : 0, 1);
        Set<String> constants = new TreeSet<>(Arrays.asList("BAD", "NO", "FULL", "NONE"));
        for (Field f : c.getDeclaredFields()) {
            if (!constants.contains(f.getName())) {
                onlyPrivate(f);
            }
        }
        Constructor<?>[] all = c.getDeclaredConstructors();
        Check.due("constructors", all.length, 1);
        Check.due("its parameters", all[0].getParameterCount(), 0);
    }

    /** The document's face, too, has these calls, and the class has its heads ahead of them. */
    private static void faceOfTheDocument() throws IOException {
        if (!Document.isThere()) {
            return;
        }
        Check.same("the document's calls", Document.calls().toString(), Arrays.toString(FACE));
        String source = Files.readString(Path.of("src", "main", "java", "DonkeyVerdicts.java"));
        int at = 0;
        for (String part : Document.headsAndCalls()) {
            String line = part.startsWith("----") ? "\n    // " + part + "\n" : "\n    public int " + part + "(";
            int found = source.indexOf(line);
            Check.due(part + " is in its place", found > at ? 1 : 0, 1);
            at = found;
        }
        Check.due("heads and calls", Document.headsAndCalls().size(), FACE.length + 5);
    }

    private static void onlyPrivate(Member m) {
        Check.due(m + " is private", Modifier.isPrivate(m.getModifiers()) ? 1 : 0, 1);
    }

    private static void nested() {
        Class<?>[] classes = DonkeyVerdicts.class.getDeclaredClasses();
        Check.due("twelve classes at most", classes.length < 12 ? 1 : 0, 1);
        for (Class<?> c : classes) {
            Check.due(c + " is static", Modifier.isStatic(c.getModifiers()) ? 1 : 0, 1);
            for (Method m : c.getDeclaredMethods()) {
                for (String f : FACE) {
                    Check.due(m + " has a name of its own", f.startsWith(m.getName() + " ") ? 1 : 0, 0);
                }
            }
            for (Field f : c.getDeclaredFields()) {
                int modifiers = f.getModifiers();
                Check.due(f + " is no static state", Modifier.isStatic(modifiers) && !Modifier.isFinal(modifiers) ? 1 : 0, 0);
            }
        }
    }

    /** A call that throws ends this test with what it threw. */
    private static void anyNumbers() throws ReflectiveOperationException {
        int[] edges = {Integer.MIN_VALUE, Integer.MIN_VALUE + 1, -214748365, -5, -4, -1, 0, 1, 2, 3, 4, 5, 7, 8, 9, 10,
            24, 25, 59, 60, 61, 110, 126, 127, 9999, 214748364, Integer.MAX_VALUE};
        Method[] methods = DonkeyVerdicts.class.getDeclaredMethods();
        Arrays.sort(methods, (a, b) -> a.toString().compareTo(b.toString()));
        for (int seed = 0; seed < 60; seed++) {
            Random random = new Random(seed);
            DonkeyVerdicts x = new DonkeyVerdicts();
            for (int i = 0; i < 512; i++) {
                Method m = methods[random.nextInt(methods.length)];
                if (Modifier.isPublic(m.getModifiers())) {
                    Object[] numbers = new Object[m.getParameterCount()];
                    for (int k = 0; k < numbers.length; k++) {
                        numbers[k] = random.nextInt(3) == 0 ? edges[random.nextInt(edges.length)] : random.nextInt(5);
                    }
                    int answer = (Integer) m.invoke(x, numbers);
                    Check.due(m.getName() + Arrays.toString(numbers) + " is an answer", answer >= -4 ? 1 : 0, 1);
                }
            }
        }
    }
}
