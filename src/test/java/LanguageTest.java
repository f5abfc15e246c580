import java.io.IOException;
import java.lang.reflect.Field;
import java.lang.reflect.Method;
import java.lang.reflect.Modifier;
import java.nio.file.Files;
import java.nio.file.Path;
import java.util.Arrays;
import java.util.List;
import java.util.regex.Matcher;
import java.util.regex.Pattern;

/** The rules of LANGUAGE.md that can be seen by a look at the class and its text, and the room that calls take. */
public final class LanguageTest {
    private static int wrong;

    private LanguageTest() { }

    public static void main(String[] args) throws IOException {
        face();
        inside();
        text(Files.readString(Path.of("src/main/java/BoyBishop.java")));
        room();
        System.out.println("LanguageTest: " + wrong + " wrong");
        if (wrong > 0) System.exit(1);
    }

    private static void must(boolean holds, String what) {
        if (!holds) {
            wrong++;
            System.out.println("LanguageTest: not so: " + what);
        }
    }

    private static void face() {
        List<String> names = Arrays.asList(Calls.NAMES);
        int found = 0;
        must(Modifier.isFinal(BoyBishop.class.getModifiers()), "the class is final");
        must(BoyBishop.class.getDeclaredConstructors().length == 1 && BoyBishop.class.getConstructors().length == 1, "one public constructor");
        for (Method m : BoyBishop.class.getDeclaredMethods()) {
            if (Modifier.isPublic(m.getModifiers())) {
                int number = names.indexOf(m.getName());
                must(number >= 0, "the document has " + m);
                must(number < 0 || m.getParameterCount() == Calls.ARGUMENTS[number], "the document has so many arguments: " + m);
                must(m.getReturnType() == int.class && !Modifier.isStatic(m.getModifiers()), "an int of the object: " + m);
                found++;
            } else {
                must(Modifier.isPrivate(m.getModifiers()) && !names.contains(m.getName()), "private, and by a name of its own: " + m);
            }
        }
        must(found == names.size(), "all methods of the document");
        for (Field f : BoyBishop.class.getDeclaredFields()) {
            boolean none = f.getName().equals("NONE") && Modifier.isPublic(f.getModifiers());
            must(none || Modifier.isPrivate(f.getModifiers()), "no other member can be seen: " + f);
        }
    }

    private static void inside() {
        must(BoyBishop.class.getDeclaredClasses().length <= 12, "some twelve classes");
        for (Class<?> c : BoyBishop.class.getDeclaredClasses()) {
            must(Modifier.isStatic(c.getModifiers()), "static: " + c);
            must(!Modifier.isPublic(c.getModifiers()) && !Modifier.isProtected(c.getModifiers()), "not to be seen: " + c);
            int fields = 0;
            for (Field f : c.getDeclaredFields()) {
                if (!Modifier.isStatic(f.getModifiers())) fields++;
                else must(Modifier.isFinal(f.getModifiers()), "a static field is final: " + f);
            }
            must(fields <= 20, "some twenty fields: " + c);
            for (Method m : c.getDeclaredMethods()) {
                must(m.getParameterCount() <= 7, "seven parameters: " + m);
                must(!Arrays.asList(Calls.NAMES).contains(m.getName()), "a name of its own: " + m);
            }
        }
    }

    private static void text(String text) {
        String code = text.replaceAll("(?s)/\\*.*?\\*/", "").replaceAll("//[^\n]*", "");
        for (String bad : new String[] {"\\bthrow\\b", "\\btry\\b", "\\bcatch\\b", "\\bsynchronized\\b", "\\bassert\\b", "->", "::",
            "Exact\\(", "System\\.(?!arraycopy\\()", "import (?!java\\.util\\.Arrays;)", "\\bdouble\\b", "\\bfloat\\b", "\\bObject\\b",
            "hashCode", "toString", "\" \\+", "\\+ \"", "[^\\x00-\\x7f]", "\\bprotected\\b",
            // a loop's end is to be seen from its own lines
            "\\bwhile \\((?!\\w+ < length && )", "\\bdo \\{", "\\bfor \\((?!int \\w+ = [\\w ]+; \\w+ [<>]=? )",
            "static (?!final|int |long |boolean |void )", "Math\\.(?!min\\(|max\\()", "Integer\\.(?!bitCount\\()", "Arrays\\.(?!fill\\()"}) {
            Matcher m = Pattern.compile(bad).matcher(code);
            must(!m.find(), "no " + bad);
        }
        String[] lines = text.split("\n");
        int from = -1;
        for (int i = 0; i < lines.length; i++) {
            if (lines[i].matches(" {4}( {4})?[a-zA-Z].*\\) \\{")) from = i;
            if (lines[i].matches(" {4}( {4})?\\}") && from >= 0) {
                must(i - from < 60, "some sixty lines: " + lines[from]);
                from = -1;
            }
            must(lines[i].length() <= 120, "a line that can be read: " + lines[i]);
        }
    }

    /** What is asked takes no room at all, so no number of calls can fill it; acts take none, either. */
    private static void room() {
        com.sun.management.ThreadMXBean threads = (com.sun.management.ThreadMXBean) java.lang.management.ManagementFactory.getThreadMXBean();
        if (!threads.isThreadAllocatedMemorySupported()) return;
        long thread = Thread.currentThread().getId();
        BoyBishop x = Checks.of(Checks.CHOIR, "vote likes+share");
        long least = Long.MAX_VALUE;
        for (int i = 0; i < 20; i++) {
            long before = threads.getThreadAllocatedBytes(thread);
            askAll(x);
            least = Math.min(least, threads.getThreadAllocatedBytes(thread) - before);
        }
        must(least < 1000, "no call but choir makes anything: " + least + " bytes");
        long before = threads.getThreadAllocatedBytes(thread);
        new BoyBishop();
        long made = threads.getThreadAllocatedBytes(thread) - before;
        must(made < 100000, "a new object is small: " + made + " bytes");
    }

    private static void askAll(BoyBishop x) {
        x.feed(0, 0, 0, 0, 0);
        x.choir();
        x.rule();
        x.end(0);
        x.day();
        x.promise(0, 6);
        x.visit(0);
        x.undo();
        x.ahead(0, 60, 0);
        x.votes(0, 0);
        x.method(2);
        x.least(0);
        x.winOver(0, 1);
        x.rests(0, 1, 0);
        x.round(1);
        x.note(-1, 0);
        x.note(1, 1);
        x.ruled(0);
        x.look(0);
        x.winters(10, 60, 5, 1);
        x.image(0);
        x.back(0);
    }
}
