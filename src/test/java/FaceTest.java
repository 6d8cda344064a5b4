import java.lang.reflect.Constructor;
import java.lang.reflect.Field;
import java.lang.reflect.Method;
import java.lang.reflect.Modifier;
import java.nio.charset.StandardCharsets;
import java.nio.file.Files;
import java.nio.file.Path;
import java.util.Set;
import java.util.TreeSet;
import java.util.regex.Matcher;
import java.util.regex.Pattern;

/** The document's public face, whole and nothing beside it, and those rules of LANGUAGE.md that a text can be searched for. */
public final class FaceTest {
    private static final String[] FACE = {
        "int type(int,int)", "int wipe(int)", "int undo(int)", "int fault(int)", "int damp(int)",
        "int stroke(int,int)", "int fine(int)", "int clean(int,int)", "int grease(int,int)", "int back(int)",
        "int read(int)", "int stands(int,int)", "int state(int,int,int)", "int up(int)", "int through(int)",
        "int misread(int)", "int most()", "int deep(int)", "int oil(int)", "int when(int,int)",
        "int place(int,int)", "int dry(int)", "int seen(int,int,int)", "int forget()", "int never()",
        "int sign(int)", "int chalk(int)", "int ask(int)", "long dryness(int,int,int,int)",
        "int weather(int,int,int)", "int sheet(int,int,int)", "int lose(int)", "int put(int,int,int,int)",
        "int get(int,int,int)", "int copy(int,int,int,int,int)", "int write(int,int)", "int count(int)",
        "long digest()"};
    private static final String[] FORBIDDEN = {
        "\\bthrow\\b", "\\bthrows\\b", "\\btry\\b", "\\bcatch\\b", "\\bfinally\\b", "\\bsynchronized\\b",
        "\\bassert\\b", "\\bimport\\b", "\\bpackage\\b", "->", "::", "\\bprotected\\b", "\\bvar\\b",
        "\\bdouble\\b", "\\bfloat\\b", "Exact\\b", "\\bstatic\\s*\\{", "\\bSystem\\.(?!arraycopy\\b)",
        "\\bThread\\b", "\\bhashCode\\b", "\\btoString\\b"};
    private static int wrong = 0;

    public static void main(String[] args) throws Exception {
        face();
        members(BoardRemembers.class);
        names();
        text(Files.readString(Path.of("src/main/java/BoardRemembers.java"), StandardCharsets.ISO_8859_1));
        System.out.println(wrong == 0 ? "the face and the language are as due" : wrong + " faults of face or language");
        if (wrong != 0) {
            System.exit(1);
        }
    }

    private static void must(boolean holds, String what) {
        if (!holds) {
            wrong++;
            System.out.println(what);
        }
    }

    private static String told(Method m) {
        StringBuilder s = new StringBuilder(m.getReturnType().getName()).append(' ').append(m.getName()).append('(');
        for (Class<?> p : m.getParameterTypes()) {
            s.append(s.charAt(s.length() - 1) == '(' ? "" : ",").append(p.getName());
        }
        return s.append(')').toString();
    }

    private static void face() throws Exception {
        Class<?> c = BoardRemembers.class;
        must(Modifier.isPublic(c.getModifiers()) && Modifier.isFinal(c.getModifiers()), "the class is not public and final");
        Set<String> due = new TreeSet<>(Set.of(FACE));
        Set<String> got = new TreeSet<>();
        for (Method m : c.getDeclaredMethods()) {
            if (Modifier.isPublic(m.getModifiers())) {
                must(!Modifier.isStatic(m.getModifiers()), told(m) + " is static");
                got.add(told(m));
            }
        }
        must(due.equals(got), "the public methods are " + got + ", due are " + due);
        must(c.getDeclaredConstructors().length == 1 && c.getConstructors().length == 1
                && c.getConstructors()[0].getParameterCount() == 0, "the constructor is not as due");
        String[] names = {"NONE", "BAD", "NOT", "FULL"};
        for (int i = 0; i < 4; i++) {
            must(c.getField(names[i]).getInt(null) == -1 - i, names[i] + " is not as due");
        }
        must(c.getFields().length == 4, "there are other public constants");
    }

    private static void members(Class<?> c) {
        int own = 0;
        for (Field f : c.getDeclaredFields()) {
            int m = f.getModifiers();
            must(f.isSynthetic() || Modifier.isPrivate(m) || Modifier.isPublic(m), f + " is package-visible");
            must(!Modifier.isStatic(m) || Modifier.isFinal(m), f + " is static and not final");
            own += Modifier.isStatic(m) ? 0 : 1;
        }
        must(own <= 20, c + " has " + own + " fields");
        for (Method m : c.getDeclaredMethods()) {
            must(m.getParameterCount() <= 7, m + " has too many parameters");
            must(c != BoardRemembers.class || m.isSynthetic() || Modifier.isPrivate(m.getModifiers())
                    || Modifier.isPublic(m.getModifiers()), m + " is package-visible");
        }
        for (Constructor<?> k : c.getDeclaredConstructors()) {
            must(k.getParameterCount() <= 7, k + " has too many parameters");
        }
        for (Class<?> inner : c.getDeclaredClasses()) {
            must(Modifier.isStatic(inner.getModifiers()), inner + " is not static");
            members(inner);
        }
        must(BoardRemembers.class.getDeclaredClasses().length <= 11, "there are too many classes");
    }

    private static void names() {
        Set<String> open = new TreeSet<>();
        for (String one : FACE) {
            open.add(one.substring(one.indexOf(' ') + 1, one.indexOf('(')));
        }
        for (Method m : BoardRemembers.class.getDeclaredMethods()) {
            must(Modifier.isPublic(m.getModifiers()) || !open.contains(m.getName()), m + " bears a public name");
        }
        for (Class<?> inner : BoardRemembers.class.getDeclaredClasses()) {
            for (Method m : inner.getDeclaredMethods()) {
                must(!open.contains(m.getName()), m + " bears a public name");
            }
        }
    }

    private static void text(String whole) {
        for (int i = 0; i < whole.length(); i++) {
            must(whole.charAt(i) < 128, "a sign beyond 127 at " + i);
        }
        String code = whole.replaceAll("(?s)/\\*.*?\\*/", " ").replaceAll("//[^\n]*", " ");
        for (String word : FORBIDDEN) {
            Matcher m = Pattern.compile(word).matcher(code);
            must(!m.find(), "LANGUAGE.md has no " + word);
        }
        int start = 0;
        int line = 0;
        for (String one : whole.split("\n")) {
            line++;
            start = one.matches(" {4}( {4})?[a-zA-Z][^;=]*\\) \\{") ? line : start;
            if (one.matches(" {4}( {4})?\\}") && start > 0) {
                must(line - start < 60, "the method at line " + start + " is too long");
                start = 0;
            }
        }
    }
}
