import java.lang.reflect.Constructor;
import java.lang.reflect.Field;
import java.lang.reflect.Member;
import java.lang.reflect.Method;
import java.lang.reflect.Modifier;
import java.nio.charset.StandardCharsets;
import java.nio.file.Files;
import java.nio.file.Path;
import java.util.Arrays;
import java.util.Set;
import java.util.TreeSet;
import java.util.regex.Matcher;
import java.util.regex.Pattern;

/** What can be seen of LANGUAGE.md in the source and in the face of the class. */
public final class RulesTest {
    private static final Check c = new Check("RulesTest");

    public static void main(String[] args) throws Exception {
        String source = Files.readString(Path.of("src/main/java/BathMinutes.java"), StandardCharsets.UTF_8);
        signs(source);
        String code = withoutTexts(source);
        words(code);
        lengths(code);
        face();
        heap();
        c.end();
    }

    private static void signs(String source) {
        for (int i = 0; i < source.length(); i++) {
            if (source.charAt(i) > 127) {
                c.due("sign at " + i, source.charAt(i), 127);
            }
        }
    }

    private static String withoutTexts(String source) {
        return source.replaceAll("(?s)/\\*.*?\\*/", " ").replaceAll("//[^\n]*", " ").replaceAll("\"[^\"\n]*\"", "\"\"");
    }

    private static void words(String code) {
        String[] none = {"->", "::", "\\bfinally\\b", "\\bsynchronized\\b", "\\bassert\\b", "Exact\\b", "\\bcatch\\b", "\\btry\\b",
            "\\bstatic\\s*\\{", "\\brecord\\b", "\\bdouble\\b", "\\bfloat\\b", "\\bSystem\\.(?!arraycopy)", "\\bObject\\b",
            "\\bequals\\b", "\\bhashCode\\b", "\\btoString\\b", "@", "\\bString\\s*\\[", "\\bvar\\b", "\"\\s*\\+", "\\+\\s*\"",
            "\\bprotected\\b", "\\bdo\\b", "\\bwhile\\s*\\(\\s*true", "for\\s*\\(\\s*;\\s*;"};
        for (String word : none) {
            Matcher m = Pattern.compile(word).matcher(code);
            c.due("'" + word + "' in the source", m.find(), false);
        }
        Matcher m = Pattern.compile("\\bimport\\s+([\\w.]+)").matcher(code);
        while (m.find()) {
            c.due("import " + m.group(1), m.group(1).equals("java.util.NoSuchElementException"), true);
        }
        m = Pattern.compile("\\bthrow\\b[^;]*;").matcher(code);
        while (m.find()) {
            c.due(m.group(), m.group().equals("throw new NoSuchElementException();"), true);
        }
        int classes = 0;
        m = Pattern.compile("\\bclass\\s+\\w+").matcher(code);
        while (m.find()) {
            classes++;
        }
        c.due("twelve classes at most", classes <= 12, true);
    }

    private static void lengths(String code) {
        String[] lines = code.split("\n");
        int from = -1;
        int depth = 0;
        int base = 0;
        for (int i = 0; i < lines.length; i++) {
            boolean head = lines[i].matches("\\s+(public |private |static |final )*[\\w\\[\\]]+( \\w+)?\\(.*\\{\\s*")
                && !lines[i].matches("\\s+(if|for|while|switch|else|return)\\b.*");
            if (head && from < 0) {
                from = i;
                base = depth;
                c.due("seven parameters at most, line " + i, lines[i].split(",").length <= 7, true);
            }
            for (char k : lines[i].toCharArray()) {
                depth += k == '{' ? 1 : k == '}' ? -1 : 0;
            }
            if (from >= 0 && depth == base) {
                c.due("sixty lines at most, line " + from, i - from <= 60, true);
                from = -1;
            }
        }
    }

    private static void face() {
        Set<String> due = new TreeSet<>(Arrays.asList(("feed end room fault bath asks sheet now start take again renew minutes undo "
            + "when clear order orderAt orderWhen jam who ask near through gap chain chainAt load block wear mean often tag byteAt "
            + "drawn odds book told sentence said image restore count").split(" ")));
        Set<String> found = new TreeSet<>();
        for (Method m : BathMinutes.class.getDeclaredMethods()) {
            if (isSeen(m)) {
                found.add(m.getName());
                c.due(m.getName() + " is public", Modifier.isPublic(m.getModifiers()) && !Modifier.isStatic(m.getModifiers()), true);
            } else {
                c.due("a private one bears the name " + m.getName(), due.contains(m.getName()), false);
            }
        }
        c.due("public methods", found.toString(), due.toString());
        for (Field f : BathMinutes.class.getDeclaredFields()) {
            c.due("field " + f.getName(), isSeen(f), f.getName().equals("NONE"));
        }
        int makers = 0;
        for (Constructor<?> k : BathMinutes.class.getDeclaredConstructors()) {
            makers += Modifier.isPublic(k.getModifiers()) ? 1 : 2;
        }
        c.due("one public constructor", makers, 1);
        c.due("final", Modifier.isFinal(BathMinutes.class.getModifiers()), true);
        for (Class<?> inner : BathMinutes.class.getDeclaredClasses()) {
            c.due(inner.getName() + " is private, static", Modifier.isPrivate(inner.getModifiers())
                && Modifier.isStatic(inner.getModifiers()), true);
            int fields = 0;
            for (Field f : inner.getDeclaredFields()) {
                boolean still = Modifier.isStatic(f.getModifiers());
                fields += still ? 0 : 1;
                c.due(f + " is final if static", !still || Modifier.isFinal(f.getModifiers()), true);
            }
            c.due(inner.getName() + " has twenty fields at most", fields <= 20, true);
            for (Method m : inner.getDeclaredMethods()) {
                c.due("an inner one bears the name " + m.getName(), due.contains(m.getName()), false);
            }
        }
    }

    private static boolean isSeen(Member m) {
        return !Modifier.isPrivate(m.getModifiers());
    }

    /** All calls of one run live in one room: what is made must be made by the constructor, and be small. */
    private static void heap() {
        com.sun.management.ThreadMXBean bean =
            (com.sun.management.ThreadMXBean) java.lang.management.ManagementFactory.getThreadMXBean();
        int[] text = new int[5];
        callAll(new BathMinutes(), text);
        long id = Thread.currentThread().getId();
        long before = bean.getThreadAllocatedBytes(id);
        BathMinutes x = new BathMinutes();
        long made = bean.getThreadAllocatedBytes(id);
        for (int i = 0; i < 500; i++) {
            callAll(x, text);
        }
        long after = bean.getThreadAllocatedBytes(id);
        c.due("bytes made by the constructor: " + (made - before), made - before < 40000, true);
        c.due("bytes made by all calls: " + (after - made), after - made < 20000, true);
    }

    private static void callAll(BathMinutes x, int[] text) {
        // 'bath b 1 9;paper p 2;sheet s p;'
        x.end(0);
        x.feed(0x62617468, 0x20622031, 0x20393b70, 0x61706572, 0x20702032);
        x.feed(0x3b736865, 0x65742073, 0x20703b20, 0x20202020, 0x20202020);
        x.room();
        x.feed(0x73746172, 0x7420733b, 0x20202020, 0x20202020, 0x20202020);
        x.book(1);
        x.undo();
        x.feed(0x6e6f7420, 0x646f6e65, 0x20202020, 0x20202020, 0x20202020);
        x.sentence();
        x.feed(0, 0, 0, 0, 0);
        x.end(1);
        x.order();
        x.feed(0x00020000, 0, 0, 0, 0);
        x.end(2);
        x.who();
        x.said(-1);
        x.clear(0);
        x.start(0);
        x.when(0);
        x.tag(0);
        x.chain();
        x.drawn(9, 3);
        x.odds(0, 30, 7);
        x.image(0);
        x.restore(0);
        x.minutes(3);
        x.load(0, 9);
    }
}
