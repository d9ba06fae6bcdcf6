import java.lang.reflect.Constructor;
import java.lang.reflect.Member;
import java.lang.reflect.Method;
import java.lang.reflect.Modifier;
import java.nio.file.Files;
import java.nio.file.Path;
import java.util.ArrayList;
import java.util.List;
import java.util.Set;
import java.util.TreeSet;
import java.util.regex.Matcher;
import java.util.regex.Pattern;

/** What of LANGUAGE.md and of the public face can be seen from the source and the class. */
public final class LanguageTests {
    private static final Due due = new Due("LanguageTests");
    private static final String[] FORBIDDEN = {
        "->", "::", "\\bimport\\b", "\\bcatch\\b", "\\btry\\b", "\\bfinally\\b", "\\bassert\\b", "\\bsynchronized\\b",
        "\\bstatic \\{", "\\bpackage\\b", "\\bMath\\.\\w+Exact\\b", "\\bSystem\\.(?!arraycopy)", "\\bObject\\b",
        "\\bthrow (?!new (IllegalState|IllegalArgument|IndexOutOfBounds)Exception\\(\"[a-z0-9 ]+\"\\);)",
        "\" \\+", "\\+ \"", "\\bprotected\\b", "\\b(float|double)\\b", "\\bequals\\b|\\bhashCode\\b", "[^\\x00-\\x7f]"};

    public static void main(String[] args) throws Exception {
        String source = Files.readString(Path.of(args[0]));
        face(Files.readString(Path.of(args[1])));
        members();
        words(source);
        methods(source);
        due.end();
    }

    /** The face of the document, line by line. */
    private static void face(String document) {
        Matcher m = Pattern.compile("    public (?:(\\w+) )?(\\w+)\\((.*?)\\)(?: throws (.*))?;").matcher(document);
        Set<String> asked = new TreeSet<>();
        while (m.find()) {
            asked.add(m.group(1) + " " + m.group(2) + "(" + m.group(3).replaceAll("(\\w+) \\w+", "$1") + ") "
                    + (m.group(4) == null ? "" : m.group(4)));
        }
        Set<String> there = new TreeSet<>();
        for (Method method : Heapkeep.class.getDeclaredMethods()) {
            if (Modifier.isPublic(method.getModifiers())) {
                there.add(method.getReturnType().getSimpleName() + " " + method.getName() + "("
                        + names(method.getParameterTypes()) + ") " + names(method.getExceptionTypes()));
            }
        }
        for (Constructor<?> constructor : Heapkeep.class.getDeclaredConstructors()) {
            there.add("null Heapkeep(" + names(constructor.getParameterTypes()) + ") ");
        }
        due.is(1, "how many methods", asked.size(), 41 - 1 + 1);
        due.is(1, "the face", there, asked);
        due.is(1, "a final class", Modifier.isFinal(Heapkeep.class.getModifiers()), true);
    }

    private static String names(Class<?>[] classes) {
        List<String> names = new ArrayList<>();
        for (Class<?> c : classes) {
            names.add(c.getSimpleName());
        }
        return String.join(", ", names);
    }

    private static void members() {
        List<Member> members = new ArrayList<>(List.of(Heapkeep.class.getDeclaredFields()));
        members.addAll(List.of(Heapkeep.class.getDeclaredMethods()));
        Set<String> calls = new TreeSet<>();
        for (Method method : Heapkeep.class.getMethods()) {
            calls.add(method.getName());
        }
        for (Member member : members) {
            int m = member.getModifiers();
            due.is(1, member + " is public or private", Modifier.isPublic(m) || Modifier.isPrivate(m), true);
        }
        Class<?>[] inside = Heapkeep.class.getDeclaredClasses();
        due.is(1, "some twelve classes", inside.length + 1 <= 12, true);
        for (Class<?> c : inside) {
            due.is(1, c + " is private and static", Modifier.isPrivate(c.getModifiers()) && Modifier.isStatic(c.getModifiers()), true);
            due.is(1, c + " has some twenty fields", c.getDeclaredFields().length <= 20, true);
            for (Method method : c.getDeclaredMethods()) {
                due.is(1, method + " has a name of its own", calls.contains(method.getName()), false);
            }
        }
    }

    private static void words(String source) {
        String code = source.replaceAll("(?s)/\\*.*?\\*/", "").replaceAll("//.*", "");
        for (String word : FORBIDDEN) {
            Matcher m = Pattern.compile(word).matcher(code);
            due.is(1, "the code's use of " + word, m.find() ? code.substring(m.start(), Math.min(code.length(), m.end() + 30)) : "none", "none");
        }
        Matcher statics = Pattern.compile("\\bstatic (?!final )(?!long joined)").matcher(code);
        due.is(1, "static fields are final", statics.find(), false);
    }

    private static void methods(String source) {
        String[] lines = source.split("\n");
        int begin = -1;
        for (int i = 0; i < lines.length; i++) {
            due.is(1, "line " + (i + 1) + " has at most 110 signs", lines[i].length() <= 110, true);
            if (lines[i].matches("(    |        )(?! )[^=]*\\) .*\\{|(    |        )(?! )[^=]*\\)\\s*\\{")) {
                begin = i;
            }
            if (begin >= 0 && lines[i].matches("    (    )?\\}")) {
                due.is(1, "the method at line " + (begin + 1) + " is short", i - begin <= 60, true);
                begin = -1;
            }
        }
    }
}
