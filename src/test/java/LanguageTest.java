import java.io.IOException;
import java.lang.reflect.Constructor;
import java.lang.reflect.Field;
import java.lang.reflect.Method;
import java.lang.reflect.Modifier;
import java.nio.file.Files;
import java.nio.file.Path;
import java.util.Arrays;
import java.util.List;
import java.util.TreeSet;
import java.util.regex.Matcher;
import java.util.regex.Pattern;

/** The class keeps to LANGUAGE.md, as far as its source and its members tell. */
public final class LanguageTest {
    private static final Check CHECK = new Check();
    private static final List<String> FACE = List.of("ask(int)", "back(int)", "blots()",
            "compare(int,int,int)", "count(int)", "depth(int,int)", "die(int)", "drawn(int)",
            "end(int)", "fair(int)", "fault()", "feed(int,int,int,int,int)", "few(int,int)",
            "fits(int)", "force(int)", "forget()", "gets(int,int)", "image(int)", "join(int,int)",
            "judge(int)", "law()", "lost(int)", "mark(int,int)", "name(int,int,int)", "of(int,int)",
            "orders()", "pass()", "range(int,int)", "readings()", "row()", "ruled(int)",
            "settle(int,int)", "status()", "stopped()", "terms(int,int)", "told(int,int)",
            "turn(int,int)", "undo()", "unlike()", "who(int)", "years(int,int)");

    private LanguageTest() {
    }

    public static void main(String[] args) throws IOException {
        String source = Files.readString(Path.of("src/main/java/CommaWill.java"));
        face();
        members();
        forbidden(bare(source));
        methodsStayShort(source);
        nullsAreLookedAt(bare(source));
        CHECK.finish();
    }

    private static void isSo(String what, boolean so) {
        CHECK.due(what, so ? 1 : 0, 1);
    }

    private static void face() {
        TreeSet<String> found = new TreeSet<>();
        for (Method m : CommaWill.class.getDeclaredMethods()) {
            isSo(m + " is public or private",
                    Modifier.isPublic(m.getModifiers()) || Modifier.isPrivate(m.getModifiers()));
            if (Modifier.isPublic(m.getModifiers())) {
                String types = String.join(",",
                        Arrays.stream(m.getParameterTypes()).map(Class::getName).toList());
                found.add(m.getName() + "(" + types + ")");
                isSo(m + " answers as it should",
                        m.getReturnType() == (m.getName().equals("few") ? long.class : int.class));
            }
        }
        isSo("the face is " + found, found.equals(new TreeSet<>(FACE)));
        for (Constructor<?> c : CommaWill.class.getDeclaredConstructors()) {
            isSo(c + " is the one", c.getParameterCount() == 0);
        }
        for (Field f : CommaWill.class.getDeclaredFields()) {
            isSo(f + " is private", Modifier.isPrivate(f.getModifiers())
                    || f.getName().equals("NONE") && Modifier.isPublic(f.getModifiers()));
        }
        isSo("final", Modifier.isFinal(CommaWill.class.getModifiers()));
    }

    private static void members() {
        Class<?>[] inside = CommaWill.class.getDeclaredClasses();
        isSo("at most twelve classes", inside.length + 1 <= 12);
        oneClass(CommaWill.class);
        for (Class<?> c : inside) {
            isSo(c + " is static", Modifier.isStatic(c.getModifiers()));
            oneClass(c);
        }
    }

    private static void oneClass(Class<?> c) {
        int fields = 0;
        for (Field f : c.getDeclaredFields()) {
            if (Modifier.isStatic(f.getModifiers())) {
                isSo(f + " is final", Modifier.isFinal(f.getModifiers()));
            } else {
                fields++;
            }
        }
        isSo(c + " has at most twenty fields: " + fields, fields <= 20);
        for (Method m : c.getDeclaredMethods()) {
            isSo(m + " has at most seven parameters", m.getParameterCount() <= 7);
            boolean isOfFace = FACE.stream().anyMatch(f -> f.startsWith(m.getName() + "("));
            isSo(m + " bears no name of the face",
                    !isOfFace || c == CommaWill.class && Modifier.isPublic(m.getModifiers()));
        }
    }

    /** The source without comments, texts and signs in quotes. */
    private static String bare(String source) {
        return source.replaceAll("(?s)/\\*.*?\\*/", " ").replaceAll("//[^\n]*", " ")
                .replaceAll("\"[^\"\n]*\"", "TEXT").replaceAll("'[^'\n]*'", "SIGN");
    }

    private static void forbidden(String bare) {
        String[] patterns = {"\\bthrow\\b", "\\btry\\b", "\\bcatch\\b", "\\bsynchronized\\b",
            "\\bassert\\b", "->", "::", "\\bimport\\b", "\\bpackage\\b", "\\bprotected\\b",
            "Exact\\b", "\\bhashCode\\b", "\\btoString\\b", "\\bequals\\b", "\\bvar\\b",
            "\\bdouble\\b", "\\bfloat\\b", "\\bSystem\\.(?!arraycopy\\b)", "\\bInteger\\.(?!bitCount\\b)",
            "\\bMath\\.(?!(max|min)\\b)", "\\bstatic \\{", "\\bnew String\\b", "TEXT \\+", "\\+ TEXT",
            "\\[\\]\\[\\]\\[\\]"};
        for (String p : patterns) {
            Matcher m = Pattern.compile(p).matcher(bare);
            boolean found = m.find();
            isSo("no " + p + (found ? " as at " + m.start() : ""), !found);
        }
        isSo("ASCII alone", bare.chars().allMatch(c -> c < 128));
    }

    private static void methodsStayShort(String source) {
        String[] lines = source.split("\n");
        int begin = 0;
        for (int i = 0; i < lines.length; i++) {
            if (lines[i].matches("( {4}| {8})[a-zA-Z].*\\) \\{")) {
                begin = i;
            }
            if (lines[i].matches("( {4}| {8})\\}")) {
                String indent = lines[i].substring(0, lines[i].indexOf('}'));
                if (lines[begin].startsWith(indent) && lines[begin].charAt(indent.length()) != ' ') {
                    isSo("line " + (begin + 1) + ": " + (i - begin + 1) + " lines",
                            i - begin + 1 <= 60);
                }
            }
        }
    }

    /** A field that is null at first is compared with null somewhere in the class that has it. */
    private static void nullsAreLookedAt(String bare) {
        Pattern nullable = Pattern.compile("(\\w+) = null;");
        int found = 0;
        for (String inside : bare.split("\\bclass\\b")) {
            Matcher m = nullable.matcher(inside);
            while (m.find()) {
                found++;
                isSo(inside.trim().split("\\W")[0] + " looks whether " + m.group(1) + " is null",
                        Pattern.compile("\\b" + m.group(1) + " [=!]= null").matcher(inside).find());
            }
        }
        isSo("fields that are null at first were found", found > 0);
    }
}
