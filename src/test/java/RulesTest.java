import java.io.IOException;
import java.lang.management.ManagementFactory;
import java.lang.reflect.Constructor;
import java.lang.reflect.Field;
import java.lang.reflect.Method;
import java.lang.reflect.Modifier;
import java.nio.file.Files;
import java.nio.file.Path;
import java.util.Arrays;
import java.util.List;
import java.util.Set;
import java.util.TreeSet;

/** The face of the class, some rules of its language, and that its calls make no objects. */
public final class RulesTest {
    private static final List<String> FACE = List.of(
        "set(int, int)", "claim(int, int, int)", "answer(int, int, int)", "withdraw(int)", "renew(int)", "overrule(int)",
        "pass(int)", "of(int, int)", "count(int)", "points(int)", "share(int)", "toFall(int)", "toStand(int)",
        "bestAnswer(int)", "changesIn()", "leastPages()", "put(long)", "wipe()", "fault()", "carryOut()", "undo()",
        "save(int)", "restore(int)");
    private static final Set<String> CONSTANTS = new TreeSet<>(List.of(
        "NO_SUCH", "BAD_VALUE", "BAD_TEXT", "TOO_MANY", "NOT_POSSIBLE", "NONE", "LAPSE", "PAGES"));
    private static final List<String> NOT_IN_THE_LANGUAGE = List.of(
        "import ", "package ", "->", "::", "synchronized", "assert ", "finally", "throw", "catch", "System.", "Float.", "Exact(");

    private static int passed = 0;
    private static int wrong = 0;

    public static void main(String[] args) throws IOException {
        face();
        classesInside();
        source();
        callsMakeNothing();
        System.out.println("RulesTest: " + passed + " passed, " + wrong + " failed");
        if (wrong != 0) {
            System.exit(1);
        }
    }

    private static void check(String what, boolean holds) {
        if (holds) {
            passed++;
        } else {
            wrong++;
            System.out.println("does not hold: " + what);
        }
    }

    private static void face() {
        Class<?> type = PointAnswers.class;
        check("public and final", Modifier.isPublic(type.getModifiers()) && Modifier.isFinal(type.getModifiers()));
        Constructor<?>[] made = type.getDeclaredConstructors();
        check("one public constructor, without arguments",
            made.length == 1 && Modifier.isPublic(made[0].getModifiers()) && made[0].getParameterCount() == 0);
        Set<String> methods = new TreeSet<>();
        for (Method method : type.getDeclaredMethods()) {
            if (!Modifier.isPrivate(method.getModifiers())) {
                check(method + " is public, of the object, and answers an int", method.getReturnType() == int.class
                    && Modifier.isPublic(method.getModifiers()) && !Modifier.isStatic(method.getModifiers()));
                String parameters = Arrays.toString(method.getParameterTypes()).replace("[", "(").replace("]", ")");
                methods.add(method.getName() + parameters);
            }
        }
        check("the methods are those of the document: " + methods, methods.equals(new TreeSet<>(FACE)));
        Set<String> constants = new TreeSet<>();
        for (Field field : type.getDeclaredFields()) {
            if (!Modifier.isPrivate(field.getModifiers())) {
                constants.add(field.getName());
                check(field + " is a constant", Modifier.toString(field.getModifiers()).equals("public static final"));
            }
        }
        check("the constants are those of the document: " + constants, constants.equals(CONSTANTS));
    }

    private static void classesInside() {
        Set<String> names = new TreeSet<>();
        for (String method : FACE) {
            names.add(method.substring(0, method.indexOf('(')));
        }
        privateMembers(PointAnswers.class, names);
        Class<?>[] inside = PointAnswers.class.getDeclaredClasses();
        check("at most twelve classes", inside.length < 12);
        for (Class<?> type : inside) {
            check(type + " is static", Modifier.isStatic(type.getModifiers()));
            check(type + " is not of the face", (type.getModifiers() & (Modifier.PUBLIC | Modifier.PROTECTED)) == 0);
            privateMembers(type, names);
        }
    }

    private static void privateMembers(Class<?> type, Set<String> publicNames) {
        int fields = 0;
        for (Field field : type.getDeclaredFields()) {
            fields += Modifier.isStatic(field.getModifiers()) ? 0 : 1;
            check(field + " is final, if it is static",
                !Modifier.isStatic(field.getModifiers()) || Modifier.isFinal(field.getModifiers()));
        }
        check(type + " has at most twenty fields", fields <= 20);
        for (Method method : type.getDeclaredMethods()) {
            check(method + " has no public one's name",
                Modifier.isPublic(method.getModifiers()) || !publicNames.contains(method.getName()));
            check(method + " has at most seven parameters", method.getParameterCount() <= 7);
        }
    }

    private static void source() throws IOException {
        String source = Files.readString(Path.of("src/main/java/PointAnswers.java"));
        String code = source.replaceAll("(?s)/\\*.*?\\*/", "").replaceAll("//[^\n]*", "");
        for (String word : NOT_IN_THE_LANGUAGE) {
            check("the source has no " + word, !code.contains(word));
        }
        check("no sign above 127", source.chars().allMatch(sign -> sign < 128));
    }

    /** Most of the room is for many runs of calls: what a call made would be counted each time. */
    private static void callsMakeNothing() {
        if (!(ManagementFactory.getThreadMXBean() instanceof com.sun.management.ThreadMXBean)) {
            return;
        }
        com.sun.management.ThreadMXBean threads = (com.sun.management.ThreadMXBean) ManagementFactory.getThreadMXBean();
        if (!threads.isThreadAllocatedMemorySupported() || !threads.isThreadAllocatedMemoryEnabled()) {
            return;
        }
        long self = Thread.currentThread().getId();
        PointAnswers bundle = new PointAnswers();
        useAll(bundle);
        long before = threads.getThreadAllocatedBytes(self);
        for (int i = 0; i < 10_000; i++) {
            useAll(bundle);
        }
        long made = threads.getThreadAllocatedBytes(self) - before;
        // At the least 16 bytes for each of the 10,000 rounds, if one of the calls made something.
        check("calls make no objects, not " + made + " bytes", made < 100_000);
    }

    private static void useAll(PointAnswers bundle) {
        bundle.set(PointAnswers.LAPSE, 20);
        bundle.claim(0, 5, 3);
        bundle.answer(0, 1, 0);
        bundle.renew(1);
        bundle.withdraw(1);
        bundle.overrule(5);
        bundle.pass(1);
        for (int what = 0; what <= 13; what++) {
            bundle.of(0, what);
            bundle.count(what);
            bundle.points(what);
        }
        bundle.share(0);
        bundle.toFall(0);
        bundle.toStand(0);
        bundle.bestAnswer(0);
        bundle.changesIn();
        bundle.leastPages();
        bundle.put(0x6F313B6F31L);
        bundle.fault();
        bundle.carryOut();
        bundle.save(0);
        bundle.restore(0);
        bundle.put('x');
        bundle.carryOut();
        bundle.wipe();
        bundle.undo();
    }
}
