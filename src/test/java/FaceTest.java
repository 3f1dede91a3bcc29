import java.io.IOException;
import java.lang.reflect.Constructor;
import java.lang.reflect.Field;
import java.lang.reflect.Method;
import java.lang.reflect.Modifier;
import java.nio.file.Files;
import java.nio.file.Path;
import java.util.TreeSet;
import java.util.regex.Matcher;
import java.util.regex.Pattern;

/** The class has just the face that the document tells, and keeps to the rules of LANGUAGE.md. */
final class FaceTest {
    private static final Path DOCUMENT = Path.of("../shared/DOC.md");
    private static final Path SOURCE = Path.of("src/main/java/ComponentTree.java");

    private FaceTest() {
    }

    public static void main(String[] args) throws IOException {
        methods();
        membersAreHidden();
        nestedClasses();
        words();
        methodsAreShort();
        callsMakeNoObjects();
        Check.end();
    }

    /** Two lists of lines, joined, so that a difference shows where it is. */
    private static void methods() throws IOException {
        TreeSet<String> due = new TreeSet<>();
        Matcher line = Pattern.compile("    public (\\w+ \\w+\\(.*?\\))(?: throws (.*?))?;").matcher(Files.readString(DOCUMENT));
        while (line.find()) {
            String thrown = line.group(2) == null ? "" : " throws " + line.group(2);
            due.add(line.group(1).replaceAll(" \\w+([,)])", "$1") + thrown);
        }
        TreeSet<String> got = new TreeSet<>();
        for (Method method : ComponentTree.class.getDeclaredMethods()) {
            if (!Modifier.isPrivate(method.getModifiers())) {
                got.add(told(method));
            }
        }
        Check.same("the document's methods", due.size(), 37);
        Check.same("the face", String.join("\n", got), String.join("\n", due));
    }

    private static String told(Method method) {
        StringBuilder told = new StringBuilder();
        told.append(method.getReturnType().getName()).append(' ').append(method.getName()).append('(');
        Class<?>[] types = method.getParameterTypes();
        for (int index = 0; index < types.length; index++) {
            told.append(index == 0 ? "" : ", ").append(types[index].getName());
        }
        told.append(')');
        Class<?>[] thrown = method.getExceptionTypes();
        for (int index = 0; index < thrown.length; index++) {
            told.append(index == 0 ? " throws " : ", ").append(thrown[index].getSimpleName());
        }
        return told.toString();
    }

    private static void membersAreHidden() {
        Check.same("public and final", ComponentTree.class.getModifiers(), Modifier.PUBLIC | Modifier.FINAL);
        Constructor<?>[] constructors = ComponentTree.class.getDeclaredConstructors();
        Check.same("constructors", constructors.length, 1);
        Check.same("public constructors", ComponentTree.class.getConstructors().length, 1);
        for (Method method : ComponentTree.class.getDeclaredMethods()) {
            if (Modifier.isPrivate(method.getModifiers())) {
                Check.same(method + " has a name of its own", publicNames().contains(method.getName()), false);
            }
        }
        for (Field field : ComponentTree.class.getDeclaredFields()) {
            int modifiers = field.getModifiers();
            boolean none = field.getName().equals("NONE");
            Check.same(field.getName() + " is private", Modifier.isPrivate(modifiers), !none);
            if (Modifier.isStatic(modifiers)) {
                Check.same(field.getName() + " is final", Modifier.isFinal(modifiers), true);
            }
        }
    }

    private static TreeSet<String> publicNames() {
        TreeSet<String> names = new TreeSet<>();
        for (Method method : ComponentTree.class.getMethods()) {
            names.add(method.getName());
        }
        return names;
    }

    private static void nestedClasses() {
        Class<?>[] nested = ComponentTree.class.getDeclaredClasses();
        Check.same("at most twelve classes", nested.length < 12, true);
        for (Class<?> one : nested) {
            int modifiers = one.getModifiers();
            Check.same(one.getName() + " is private and static",
                    Modifier.isPrivate(modifiers) && Modifier.isStatic(modifiers), true);
            Check.same(one.getName() + " has few fields", one.getDeclaredFields().length <= 20, true);
            for (Field field : one.getDeclaredFields()) {
                Check.same(field + " is no static state", Modifier.isStatic(field.getModifiers()), false);
            }
            for (Method method : one.getDeclaredMethods()) {
                Check.same(method + " has few parameters", method.getParameterCount() <= 7, true);
                Check.same(method + " has a name of its own", publicNames().contains(method.getName()), false);
            }
        }
    }

    private static String code() throws IOException {
        return Files.readString(SOURCE).replaceAll("(?s)/\\*.*?\\*/", "").replaceAll("//.*", "");
    }

    private static void words() throws IOException {
        String code = code();
        Matcher imports = Pattern.compile("import (.*);").matcher(code);
        while (imports.find()) {
            Check.same("an import", imports.group(1), "java.util.Arrays");
        }
        String[] forbidden = {
            "\\bpackage\\b", "->", "::", "\\btry\\b", "\\bcatch\\b", "\\bfinally\\b", "\\bsynchronized\\b",
            "\\bassert\\b", "\\bprotected\\b", "Exact\\b", "\\bwhile\\b", "\\bThread\\b", "System\\.(?!arraycopy)",
            "Arrays\\.(?!fill|copyOf)", "Math\\.(?!abs|max|min)", "\\bstatic \\{", "\\bvar\\b"
        };
        for (String word : forbidden) {
            Check.same("the word " + word, Pattern.compile(word).matcher(code).find(), false);
        }
        Matcher flags = Pattern.compile("boolean\\[\\] (\\w+)").matcher(code);
        while (flags.find()) {
            Check.same("Arrays.fill over numbers alone", code.contains("fill(" + flags.group(1) + ","), false);
        }
        Matcher throwing = Pattern.compile("throw (.*?)\\(").matcher(code);
        int throwers = 0;
        while (throwing.find()) {
            throwers++;
            Check.same("throw " + throwing.group(1), throwing.group(1).matches(
                    "new (IllegalStateException|IllegalArgumentException|IndexOutOfBoundsException)"), true);
        }
        Check.same("all throws stand in three methods", throwers, 3);
    }

    private static void methodsAreShort() throws IOException {
        int length = 0;
        int longest = 0;
        for (String line : code().split("\n")) {
            length = line.isBlank() ? 0 : length + 1;
            longest = Math.max(longest, length);
        }
        Check.same("no more than sixty lines without an empty one", longest <= 60, true);
    }

    /** The room of a run is small, so a call that goes well makes nothing that stays. */
    private static void callsMakeNoObjects() {
        com.sun.management.ThreadMXBean bean =
                (com.sun.management.ThreadMXBean) java.lang.management.ManagementFactory.getThreadMXBean();
        long thread = Thread.currentThread().getId();
        ComponentTree tree = new ComponentTree();
        manyCalls(tree);
        long before = bean.getThreadAllocatedBytes(thread);
        manyCalls(tree);
        long made = bean.getThreadAllocatedBytes(thread) - before;
        Check.same("bytes made by 40 rounds of calls, " + made + ", are few", made < 4096, true);
    }

    private static void manyCalls(ComponentTree tree) {
        for (int round = 0; round < 40; round++) {
            tree.begin(8, 8);
            for (int pixel = 0; pixel < 64; pixel += 3) {
                tree.setLevel(pixel, (pixel * 7 + round) % 16);
            }
            tree.append('1');
            tree.append('2');
            tree.firstError();
            tree.markAll();
            tree.setEight(round % 2 == 0);
            tree.setDark(round % 3 == 0);
            tree.threshold(6, 30);
            tree.ifLevel(5, 9, 2);
            tree.suppress(2);
            tree.keepPeaks(3);
            tree.filter(1, 2, 3);
            tree.reconstruct();
            tree.digest();
            tree.undo();
            tree.complement();
            tree.load();
            tree.meanRank(0);
            tree.distance(0, 1);
        }
    }
}
