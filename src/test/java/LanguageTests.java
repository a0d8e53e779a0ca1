import com.sun.management.ThreadMXBean;
import java.io.IOException;
import java.lang.management.ManagementFactory;
import java.lang.reflect.Field;
import java.lang.reflect.Method;
import java.lang.reflect.Modifier;
import java.nio.file.Files;
import java.nio.file.Path;
import java.util.Set;
import java.util.TreeSet;
import java.util.regex.Matcher;
import java.util.regex.Pattern;

/** What LANGUAGE.md asks of the source, as far as a test can see it; run from the project's folder. */
public final class LanguageTests {
    private static final Path SOURCE = Path.of("src/main/java/LadderOfBows.java");
    private static final String FACE = "write wipe fault lay person owes speak wrong bow refuse atOnce die days undo peace "
            + "ring forgiven mustNot began word vote deals guests court stranger easter silent forget fits year keep back count";
    private static final Pattern RULED_OUT = Pattern.compile(
            "\\b(throw|throws|try|catch|finally|synchronized|assert|package|goto|var|hashCode|toString|Object)\\b|->|::|Exact\\(|\\bnew \\w+\\([^)]*\\) \\{");
    private static final int MOST_LINES = 60;

    private static int wrong = 0;

    private static void refuse(String what) {
        wrong++;
        System.out.println(what);
    }

    public static void main(String[] args) throws IOException {
        String source = Files.readString(SOURCE);
        String code = source.replaceAll("(?s)/\\*.*?\\*/", "").replaceAll("//[^\n]*", "").replaceAll("\"[^\"\n]*\"", "\"\"");
        words(code);
        methodLengths(source);
        face();
        statics();
        room();
        System.out.println(wrong == 0 ? "the source keeps to the rules" : wrong + " rules are broken");
        if (wrong != 0) {
            System.exit(1);
        }
    }

    private static void words(String code) {
        Matcher m = RULED_OUT.matcher(code);
        while (m.find()) {
            refuse("ruled out: " + m.group());
        }
        Matcher imports = Pattern.compile("import [^;]*;").matcher(code);
        while (imports.find()) {
            if (!imports.group().equals("import java.util.Arrays;")) {
                refuse("ruled out: " + imports.group());
            }
        }
    }

    private static void methodLengths(String source) {
        String[] lines = source.split("\n");
        int start = 0;
        for (int k = 0; k < lines.length; k++) {
            if (lines[k].matches("( {4}| {8})(public|private|static|int|void|boolean)[^;=]*\\(.*\\) \\{")) {
                start = k;
            }
            if (lines[k].matches("( {4}| {8})\\}") && start > 0) {
                if (k - start + 1 > MOST_LINES) {
                    refuse("longer than " + MOST_LINES + " lines: " + lines[start].trim());
                }
                start = 0;
            }
        }
    }

    private static void face() {
        Set<String> face = new TreeSet<>(Set.of(FACE.split(" ")));
        Set<String> found = new TreeSet<>();
        for (Method method : LadderOfBows.class.getDeclaredMethods()) {
            if (Modifier.isPublic(method.getModifiers())) {
                found.add(method.getName());
            } else if (!Modifier.isPrivate(method.getModifiers())) {
                refuse("neither public nor private: " + method);
            } else if (face.contains(method.getName())) {
                refuse("private, with a public one's name: " + method);
            }
        }
        if (!found.equals(face)) {
            refuse("the face is " + found);
        }
        for (Class<?> inner : LadderOfBows.class.getDeclaredClasses()) {
            if (!Modifier.isStatic(inner.getModifiers())) {
                refuse("not static: " + inner);
            }
            for (Method method : inner.getDeclaredMethods()) {
                if (face.contains(method.getName())) {
                    refuse("with a public one's name: " + method);
                }
            }
        }
    }

    private static void statics() {
        Set<String> constants = Set.of("BAD", "NO", "FULL", "NONE");
        for (Field field : LadderOfBows.class.getDeclaredFields()) {
            int how = field.getModifiers();
            if (!constants.contains(field.getName()) && !Modifier.isPrivate(how)) {
                refuse("not private: " + field);
            }
            if (Modifier.isStatic(how) && !Modifier.isFinal(how)) {
                refuse("static and not final: " + field);
            }
        }
    }

    /** All calls live in one room: once the object is there, no call makes another one. */
    private static void room() {
        ThreadMXBean threads = (ThreadMXBean) ManagementFactory.getThreadMXBean();
        LadderOfBows x = new LadderOfBows();
        dearCalls(x);
        long id = Thread.currentThread().getId();
        long before = threads.getThreadAllocatedBytes(id);
        for (int k = 0; k < 100; k++) {
            dearCalls(x);
        }
        long made = threads.getThreadAllocatedBytes(id) - before;
        if (made > 10_000) {
            refuse("100 times all calls made " + made + " bytes");
        }
    }

    private static int dearCalls(LadderOfBows x) {
        int sum = x.write('p') + x.fault() + x.lay() + x.wipe() + x.person(0, 3) + x.owes(0, 1) + x.speak(0, 1);
        sum += x.wrong(0, 1) + x.bow(0, 1) + x.refuse(0, 1) + x.atOnce(3, 4) + x.days(9) + x.die(1) + x.undo() + x.undo();
        sum += x.peace(0) + x.ring(0, 0) + x.forgiven(0) + x.mustNot(0) + x.began() + x.word(0, 1) + x.vote() + x.deals();
        sum += x.guests(0, 1) + x.court(2, 0) + x.stranger(0) + x.easter() + x.silent(0) + x.fits(0) + x.forget();
        return sum + x.year(1, 60, 0) + x.keep() + x.back() + x.count(3);
    }
}
