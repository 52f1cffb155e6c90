import java.io.IOException;
import java.lang.management.ManagementFactory;
import java.lang.reflect.Constructor;
import java.lang.reflect.Field;
import java.lang.reflect.Method;
import java.lang.reflect.Modifier;
import java.nio.file.Files;
import java.nio.file.Path;
import java.util.ArrayList;
import java.util.List;
import java.util.TreeSet;
import java.util.regex.Matcher;
import java.util.regex.Pattern;

/** The face as the document has it, the rules of LANGUAGE.md that show in the source, and the room that calls take. */
public final class FaceTest {
    private static final Path SOURCE = Path.of("src/main/java/ConcordDesk.java");
    private static final Path DOCUMENT = Path.of("../shared/DOC.md");
    private static int wrong = 0;

    public static void main(String[] args) throws IOException {
        face();
        names();
        source();
        lines();
        room();
        System.out.println(wrong == 0 ? "the face is as due" : wrong + " faults of the face");
        if (wrong != 0) {
            System.exit(1);
        }
    }

    private static void hold(String what, boolean is) {
        if (!is) {
            wrong++;
            System.out.println(what);
        }
    }

    private static String throwing(Class<?>[] exceptions) {
        List<String> names = new ArrayList<>();
        for (Class<?> exception : exceptions) {
            names.add(exception.getSimpleName());
        }
        return names.isEmpty() ? "" : " throws " + String.join(", ", names);
    }

    private static TreeSet<String> dueFace() throws IOException {
        TreeSet<String> due = new TreeSet<>();
        Pattern signature = Pattern.compile("    public (.*?)\\((.*?)\\)(.*);");
        for (String line : Files.readAllLines(DOCUMENT)) {
            Matcher m = signature.matcher(line);
            if (m.matches()) {
                due.add(m.group(1) + "(" + m.group(2).replaceAll(" \\w+(,|$)", "$1") + ")" + m.group(3));
            }
        }
        return due;
    }

    private static void face() throws IOException {
        Class<?> face = ConcordDesk.class;
        TreeSet<String> found = new TreeSet<>();
        hold("the class is public and final", Modifier.isPublic(face.getModifiers())
                && Modifier.isFinal(face.getModifiers()) && face.getPackageName().isEmpty());
        for (Constructor<?> made : face.getDeclaredConstructors()) {
            hold("a constructor that is not public", Modifier.isPublic(made.getModifiers()));
            hold("a constructor with parameters", made.getParameterCount() == 0);
            found.add("ConcordDesk()");
        }
        for (Method method : face.getDeclaredMethods()) {
            if (Modifier.isPublic(method.getModifiers())) {
                List<String> parameters = new ArrayList<>();
                for (Class<?> parameter : method.getParameterTypes()) {
                    parameters.add(parameter.getSimpleName());
                }
                found.add(method.getReturnType().getSimpleName() + " " + method.getName() + "("
                        + String.join(", ", parameters) + ")" + throwing(method.getExceptionTypes()));
            } else {
                hold(method.getName() + " is not private", Modifier.isPrivate(method.getModifiers()));
            }
        }
        for (Field field : face.getDeclaredFields()) {
            hold(field.getName() + " is not private", Modifier.isPrivate(field.getModifiers()));
        }
        hold("the face is " + found + ", due is " + dueFace(), found.equals(dueFace()) && found.size() == 34);
    }

    private static void names() {
        TreeSet<String> publics = new TreeSet<>();
        for (Method method : ConcordDesk.class.getDeclaredMethods()) {
            if (Modifier.isPublic(method.getModifiers())) {
                publics.add(method.getName());
            }
        }
        Class<?>[] inside = ConcordDesk.class.getDeclaredClasses();
        hold("too many classes", inside.length <= 11);
        for (Class<?> one : inside) {
            int modifiers = one.getModifiers();
            hold(one + " is public, protected or not static", Modifier.isStatic(modifiers)
                    && !Modifier.isPublic(modifiers) && !Modifier.isProtected(modifiers));
            int fields = 0;
            for (Field field : one.getDeclaredFields()) {
                boolean isStatic = Modifier.isStatic(field.getModifiers());
                fields += isStatic ? 0 : 1;
                hold(field + " is static and not final", !isStatic || Modifier.isFinal(field.getModifiers()));
            }
            hold(one + " has too many fields", fields <= 20);
            for (Method method : one.getDeclaredMethods()) {
                hold(method + " has the name of a public one", !publics.contains(method.getName()));
                hold(method + " has too many parameters", method.getParameterCount() <= 7);
            }
        }
    }

    /** The source without its comments and the texts in it. */
    private static String bare() throws IOException {
        return Files.readString(SOURCE).replaceAll("(?s)/\\*.*?\\*/", "").replaceAll("//[^\n]*", "");
    }

    private static void source() throws IOException {
        String bare = bare();
        String[] never = {"->", "::", "\\btry\\b", "\\bcatch\\b", "\\bfinally\\b", "\\bsynchronized\\b", "\\bassert\\b",
            "\\bpackage\\b", "\\bstatic \\{", "\\bSystem\\b", "\\bArithmetic\\w+ e\\b", "Exact\\b", "\\bThread\\b",
            "\\bRandom\\b", "\\bvolatile\\b", "\\btransient\\b", "\\bnative\\b", "\\bequals\\b", "\\bhashCode\\b",
            "\\btoString\\b", "\\bnull\\b", "\\bString\\b", "\"", "@", "\\bvar\\b", "\\bextends\\b", "[^\\x00-\\x7F]"};
        for (String pattern : never) {
            hold("the source has " + pattern, !Pattern.compile(pattern).matcher(bare).find());
        }
        Matcher imports = Pattern.compile("\\bimport ([^;]*);").matcher(bare);
        while (imports.find()) {
            hold("import of " + imports.group(1), imports.group(1).equals("java.util.NoSuchElementException"));
        }
        Matcher library = Pattern.compile("\\b(Math|Long|Integer)\\.(\\w+)").matcher(bare);
        while (library.find()) {
            hold("call of " + library.group(), List.of("min", "max", "abs", "bitCount").contains(library.group(2)));
        }
        Matcher thrown = Pattern.compile("\\bthrow\\b([^;]*);").matcher(bare);
        while (thrown.find()) {
            hold("throw" + thrown.group(1), thrown.group(1).matches(" new (IllegalState|IllegalArgument"
                    + "|IndexOutOfBounds|Arithmetic|UnsupportedOperation|NoSuchElement)Exception\\(\\)"));
        }
        Matcher made = Pattern.compile("\\bnew (\\w+)\\[?[^;]*;").matcher(bare.replaceAll("throw new[^;]*;", ""));
        while (made.find()) {
            String line = made.group();
            boolean isRow = line.matches("new (int|long|boolean)\\[[A-Z_* +()12/]+\\];");
            boolean isOwn = line.matches("new (Lexicon|Speller|Grammar|Text|Proof|Chart|Walk)\\([a-z, ]*\\);");
            hold("something is made: " + line, isRow || isOwn);
        }
    }

    /** Methods stay short: between a line that opens a method and the line that closes it. */
    private static void lines() throws IOException {
        List<String> all = Files.readAllLines(SOURCE);
        int opened = -1;
        for (int i = 0; i < all.size(); i++) {
            String line = all.get(i);
            hold("line " + (i + 1) + " is too long", line.length() <= 120);
            if (line.matches("( {4}| {8})[^ /].*\\(.*\\).*\\{") && !line.contains(" class ")) {
                opened = i;
            }
            if (opened >= 0 && line.matches("( {4}| {8})\\}")) {
                hold("the method at line " + (opened + 1) + " is too long", i - opened <= 60);
                opened = -1;
            }
        }
    }

    /** All calls of a run live in one room, so no call that answers may make anything. */
    private static void room() {
        com.sun.management.ThreadMXBean threads = (com.sun.management.ThreadMXBean) ManagementFactory.getThreadMXBean();
        long id = Thread.currentThread().getId();
        ConcordDesk desk = new ConcordDesk();
        callAll(desk);
        long before = threads.getThreadAllocatedBytes(id);
        for (int i = 0; i < 5; i++) {
            callAll(desk);
        }
        long bytes = threads.getThreadAllocatedBytes(id) - before;
        hold("calls make " + bytes + " bytes", bytes < 1000);
        before = threads.getThreadAllocatedBytes(id);
        for (int i = 0; i < 10; i++) {
            callAll(new ConcordDesk());
        }
        bytes = (threads.getThreadAllocatedBytes(id) - before) / 10;
        hold("a desk takes " + bytes + " bytes", bytes < 300000);
    }

    private static long callAll(ConcordDesk desk) {
        long sum = 0;
        for (int cell = 0; cell < 6; cell++) {
            sum += desk.setEnding(0, cell / 3, cell % 3, cell);
        }
        sum += desk.setSeam(0, 2, 3);
        if (desk.readings(12) == 0) {
            sum += desk.addRoot(0, 0, 0, 12) + desk.addRoot(1, 0, 0, 4);
            sum += desk.addRule(7, 0, 1, 2, true) + desk.addRule(7, 7, 7, 0, true) + desk.addCut(0, 0);
        }
        for (int i = 0; i < 5; i++) {
            sum += desk.insert(2 * i, 12) + desk.insert(2 * i + 1, i == 3 ? 88 : 4);
        }
        sum += desk.form(0, 0, 0) + desk.reading(12, 0) + desk.guess(85) + desk.cost(1234567, 7654321);
        sum += desk.suggestions(13) + desk.suggestion(13, 0) + desk.replace(7, 45) + desk.sentences() + desk.from(0);
        sum += desk.words(0) + desk.left(0) + desk.trees(0) + desk.fault(0) + desk.badness() + desk.edits();
        sum += desk.editPlace(0) + desk.editWord(0) + desk.apply(0) + desk.best(0);
        sum += (long) desk.knownShare() + (long) desk.meanLeft() + (desk.isSound() ? 1 : 0);
        sum += desk.replace(3, 0) + desk.treesAnew(0);
        for (int i = 0; i < 10; i++) {
            sum += desk.remove(0);
        }
        return sum + desk.tokens();
    }
}
