import com.sun.management.ThreadMXBean;
import java.io.IOException;
import java.lang.management.ManagementFactory;
import java.lang.reflect.Constructor;
import java.lang.reflect.Field;
import java.lang.reflect.Method;
import java.lang.reflect.Modifier;
import java.nio.file.Files;
import java.nio.file.Path;
import java.util.Arrays;
import java.util.Set;
import java.util.TreeSet;
import java.util.regex.Matcher;
import java.util.regex.Pattern;
import java.util.stream.Collectors;

/** What LANGUAGE.md asks of the source, as far as a test can see it; run from the project's folder. */
public final class LanguageTests {
    private static final Path SOURCE = Path.of("src/main/java/LadderOfBows.java");
    private static final Path DOCUMENT = Path.of("../shared/DOC.md");
    private static final Pattern FACE_LINE = Pattern.compile("(?m)^    public int (\\w+)\\(([^)]*)\\);$");
    private static final int FACE_METHODS = 33;
    private static final Pattern RULED_OUT = Pattern.compile(
            "\\b(throw|throws|try|catch|finally|synchronized|assert|package|goto|var|hashCode|toString|Object)\\b|->|::|Exact\\(|\\bnew \\w+\\([^)]*\\) \\{");
    private static final int MOST_LINES = 60;

    private static int wrong = 0;

    private static void refuse(String what) {
        wrong++;
        System.out.println(what);
    }

    public static void main(String[] args) throws IOException {
        String source = Files.readString(SOURCE);
        String code = source.replaceAll("(?s)/\\*.*?\\*/", "").replaceAll("//[^\n]*", "").replaceAll("\"[^\"\n]*\"", "\"\"");
        words(code);
        methodLengths(source);
        face(Files.readString(DOCUMENT));
        statics();
        room();
        System.out.println(wrong == 0 ? "the source keeps to the rules" : wrong + " rules are broken");
        if (wrong != 0) {
            System.exit(1);
        }
    }

    private static void words(String code) {
        Matcher m = RULED_OUT.matcher(code);
        while (m.find()) {
            refuse("ruled out: " + m.group());
        }
        Matcher imports = Pattern.compile("import [^;]*;").matcher(code);
        while (imports.find()) {
            if (!imports.group().equals("import java.util.Arrays;")) {
                refuse("ruled out: " + imports.group());
            }
        }
    }

    private static void methodLengths(String source) {
        String[] lines = source.split("\n");
        int start = 0;
        for (int k = 0; k < lines.length; k++) {
            if (lines[k].matches("( {4}| {8})(public|private|static|int|void|boolean)[^;=]*\\(.*\\) \\{")) {
                start = k;
            }
            if (lines[k].matches("( {4}| {8})\\}") && start > 0) {
                if (k - start + 1 > MOST_LINES) {
                    refuse("longer than " + MOST_LINES + " lines: " + lines[start].trim());
                }
                start = 0;
            }
        }
    }

    /** Every method of the document's face is there, taking and answering ints, and no other one can be seen. */
    private static void face(String document) {
        Set<String> face = new TreeSet<>();
        Set<String> names = new TreeSet<>();
        Matcher line = FACE_LINE.matcher(document);
        while (line.find()) {
            names.add(line.group(1));
            face.add("int " + line.group(1) + "(" + line.group(2).replaceAll("int \\w+", "int") + ")");
        }
        if (face.size() != FACE_METHODS) {
            refuse("the document's face is read as " + face);
        }
        Set<String> found = new TreeSet<>();
        for (Method method : LadderOfBows.class.getDeclaredMethods()) {
            if (Modifier.isPublic(method.getModifiers())) {
                found.add(asInDocument(method));
            } else if (!Modifier.isPrivate(method.getModifiers())) {
                refuse("neither public nor private: " + method);
            } else if (names.contains(method.getName())) {
                refuse("private, with a public one's name: " + method);
            }
        }
        if (!found.equals(face)) {
            refuse("the face is " + found);
        }
        classItself();
        classesInside(names);
    }

    private static String asInDocument(Method method) {
        String types = Arrays.stream(method.getParameterTypes()).map(Class::getName).collect(Collectors.joining(", "));
        boolean isStatic = Modifier.isStatic(method.getModifiers());
        return (isStatic ? "static " : "") + method.getReturnType().getName() + " " + method.getName() + "(" + types + ")";
    }

    private static void classItself() {
        int how = LadderOfBows.class.getModifiers();
        if (!Modifier.isPublic(how) || !Modifier.isFinal(how) || LadderOfBows.class.getSuperclass() != Object.class) {
            refuse("the class is not public and final, or is more than itself");
        }
        Constructor<?>[] constructors = LadderOfBows.class.getDeclaredConstructors();
        if (constructors.length != 1 || !constructors[0].toString().equals("public LadderOfBows()")) {
            refuse("constructors: " + Arrays.toString(constructors));
        }
    }

    private static void classesInside(Set<String> names) {
        for (Class<?> inner : LadderOfBows.class.getDeclaredClasses()) {
            if (!Modifier.isStatic(inner.getModifiers())) {
                refuse("not static: " + inner);
            }
            for (Method method : inner.getDeclaredMethods()) {
                if (names.contains(method.getName())) {
                    refuse("with a public one's name: " + method);
                }
            }
        }
    }

    private static void statics() {
        Set<String> constants = new TreeSet<>(Set.of("BAD", "NO", "FULL", "NONE"));
        for (Field field : LadderOfBows.class.getDeclaredFields()) {
            int how = field.getModifiers();
            boolean isOfFace = field.toString().equals("public static final int LadderOfBows." + field.getName());
            if (!(isOfFace && constants.remove(field.getName())) && !Modifier.isPrivate(how)) {
                refuse("not private: " + field);
            }
            if (Modifier.isStatic(how) && !Modifier.isFinal(how)) {
                refuse("static and not final: " + field);
            }
        }
        if (!constants.isEmpty()) {
            refuse("constants that are not there: " + constants);
        }
    }

    /** All calls live in one room: once the object is there, no call makes another one. */
    private static void room() {
        ThreadMXBean threads = (ThreadMXBean) ManagementFactory.getThreadMXBean();
        LadderOfBows x = new LadderOfBows();
        dearCalls(x);
        long id = Thread.currentThread().getId();
        long before = threads.getThreadAllocatedBytes(id);
        for (int k = 0; k < 100; k++) {
            dearCalls(x);
        }
        long made = threads.getThreadAllocatedBytes(id) - before;
        if (made > 10_000) {
            refuse("100 times all calls made " + made + " bytes");
        }
    }

    private static int dearCalls(LadderOfBows x) {
        int sum = x.write('p') + x.fault() + x.lay() + x.wipe() + x.person(0, 3) + x.owes(0, 1) + x.speak(0, 1);
        sum += x.wrong(0, 1) + x.bow(0, 1) + x.refuse(0, 1) + x.atOnce(3, 4) + x.days(9) + x.die(1) + x.undo() + x.undo();
        sum += x.peace(0) + x.ring(0, 0) + x.forgiven(0) + x.mustNot(0) + x.began() + x.word(0, 1) + x.vote() + x.deals();
        sum += x.guests(0, 1) + x.court(2, 0) + x.stranger(0) + x.easter() + x.silent(0) + x.fits(0) + x.forget();
        return sum + x.year(1, 60, 0) + x.keep() + x.back() + x.count(3);
    }
}
