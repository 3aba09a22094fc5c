import java.lang.management.ManagementFactory;
import java.lang.reflect.Member;
import java.lang.reflect.Method;
import java.lang.reflect.Modifier;
import java.nio.file.Files;
import java.nio.file.Path;
import java.util.ArrayList;
import java.util.Arrays;
import java.util.Collections;
import java.util.List;
import java.util.Set;
import java.util.TreeSet;
import java.util.regex.Matcher;
import java.util.regex.Pattern;

/** The document's face, and what of LANGUAGE.md can be seen by a plain look at the source. */
public final class RulesTest {
    private static final Check CHECK = new Check();
    private static final Path SOURCE = Path.of("src/main/java/TenthBean.java");
    private static final Path DOC = Path.of("../shared/DOC.md");
    private static final List<String> FORBIDDEN = List.of("catch", "try", "finally", "synchronized", "assert", "->", "::",
            "instanceof", "Exact", "protected", "package", "double", "float", "@", "hashCode", "toString", "System.out",
            "Object", "null", "import static", "java.util.*");

    public static void main(String[] args) throws Exception {
        face();
        hidden();
        words();
        lengths();
        room();
        CHECK.end();
    }

    private static void same(String what, Object got, Object want) {
        CHECK.due(what + ": " + got + " / " + want, got.equals(want), true);
    }

    private static List<String> faceOfDocument() throws Exception {
        String doc = Files.readString(DOC);
        String face = doc.substring(doc.indexOf("```java"), doc.indexOf("```", doc.indexOf("```java") + 3));
        List<String> all = new ArrayList<>();
        Matcher m = Pattern.compile("public (int|long|boolean) (\\w+)\\(([^)]*)\\)").matcher(face);
        while (m.find()) {
            all.add(m.group(1) + " " + m.group(2) + "(" + m.group(3).replaceAll("(int|boolean) \\w+", "$1") + ")");
        }
        Collections.sort(all);
        return all;
    }

    private static void face() throws Exception {
        List<String> have = new ArrayList<>();
        for (Method m : TenthBean.class.getDeclaredMethods()) {
            if (Modifier.isPublic(m.getModifiers())) {
                List<String> types = new ArrayList<>();
                for (Class<?> c : m.getParameterTypes()) {
                    types.add(c.getName());
                }
                have.add(m.getReturnType().getName() + " " + m.getName() + "(" + String.join(", ", types) + ")");
            }
        }
        Collections.sort(have);
        same("the face", have, faceOfDocument());
        CHECK.due("53 methods", have.size(), 53);
        CHECK.due("public and final", Modifier.isPublic(TenthBean.class.getModifiers()) && Modifier.isFinal(TenthBean.class.getModifiers()), true);
        CHECK.due("one constructor", TenthBean.class.getDeclaredConstructors().length, 1);
    }

    private static void hidden() {
        List<Member> all = new ArrayList<>(Arrays.asList(TenthBean.class.getDeclaredFields()));
        all.addAll(Arrays.asList(TenthBean.class.getDeclaredMethods()));
        Set<String> publicNames = new TreeSet<>();
        for (Member m : all) {
            if (Modifier.isPublic(m.getModifiers()) && m instanceof Method) {
                publicNames.add(m.getName());
            } else if (!m.getName().equals("NONE")) {
                CHECK.due(m.getName() + " is private", Modifier.isPrivate(m.getModifiers()), true);
            }
        }
        Set<String> others = new TreeSet<>();
        int fields = 0;
        for (Class<?> c : TenthBean.class.getDeclaredClasses()) {
            CHECK.due(c.getName() + " is static", Modifier.isStatic(c.getModifiers()), true);
            for (Method m : c.getDeclaredMethods()) {
                others.add(m.getName());
            }
            fields = Math.max(fields, c.getDeclaredFields().length);
        }
        for (Method m : TenthBean.class.getDeclaredMethods()) {
            if (!Modifier.isPublic(m.getModifiers())) {
                others.add(m.getName());
            }
        }
        others.retainAll(publicNames);
        same("names of public methods borne by others", others, Set.of());
        CHECK.due("classes", TenthBean.class.getDeclaredClasses().length + 1 <= 12, true);
        CHECK.due("fields", fields <= 20, true);
    }

    private static String bare() throws Exception {
        String source = Files.readString(SOURCE);
        return source.replaceAll("(?s)/\\*.*?\\*/", "").replaceAll("//[^\n]*", "").replaceAll("\"[^\"\n]*\"", "\"\"");
    }

    private static void words() throws Exception {
        String source = bare();
        for (String word : FORBIDDEN) {
            String pattern = Character.isLetter(word.charAt(0)) ? "\\b" + Pattern.quote(word) + "\\b" : Pattern.quote(word);
            CHECK.due("no " + word, Pattern.compile(pattern).matcher(source).find(), false);
        }
        Matcher imports = Pattern.compile("import ([\\w.]+);").matcher(source);
        while (imports.find()) {
            same("import", imports.group(1), "java.util.NoSuchElementException");
        }
        CHECK.due("letters of ASCII alone", Files.readString(SOURCE).chars().allMatch(c -> c == '\n' || c >= 32 && c < 127), true);
    }

    /** Methods of at most sixty lines, of at most seven parameters. */
    private static void lengths() throws Exception {
        int begun = -1;
        int number = 0;
        for (String line : Files.readAllLines(SOURCE)) {
            number++;
            if (line.matches(" {4}(    )?[\\w].*\\) (throws \\w+ )?\\{")) {
                begun = number;
                CHECK.due("parameters, line " + number, line.chars().filter(c -> c == ',').count() <= 6, true);
            }
            if (line.matches(" {4}(    )?\\}") && begun > 0) {
                CHECK.due("length, line " + begun, number - begun < 60, true);
                begun = -1;
            }
        }
    }

    /** All calls of a run live in one room: what a call makes is none. */
    private static void room() {
        TenthBean x = Check.legion(Check.FULL);
        com.sun.management.ThreadMXBean bean = (com.sun.management.ThreadMXBean) ManagementFactory.getThreadMXBean();
        long self = Thread.currentThread().getId();
        all(x);
        long before = bean.getThreadAllocatedBytes(self);
        for (int i = 0; i < 1000; i++) {
            all(x);
        }
        long made = bean.getThreadAllocatedBytes(self) - before;
        CHECK.due("bytes made by 1,000 rounds of calls: " + made, made < 16000, true);
    }

    private static void all(TenthBean x) {
        x.feed(1952804384, 1948262432, 538976288, 538976288, 538976288);
        x.legion(20);
        x.breaks();
        x.brace(1);
        x.toHearten(1);
        x.fearFor(1);
        x.worst();
        x.runsAfter(0, 1, true);
        x.orderOdds(1, true);
        x.friends();
        x.newTen(1);
        x.next(2, true);
        x.doubtIf(2, true, true);
        x.ask();
        x.askLeaves();
        x.goneAt(3);
        x.rests(2);
        x.wars(3, 60);
        x.lot(0);
        x.braces(0, true);
        x.move(0, 1);
        x.undo();
        x.undo();
        x.undo();
        x.image();
        x.back(0);
    }
}
