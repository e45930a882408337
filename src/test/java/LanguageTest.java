import java.io.IOException;
import java.lang.reflect.Executable;
import java.lang.reflect.Field;
import java.lang.reflect.Method;
import java.lang.reflect.Modifier;
import java.nio.charset.StandardCharsets;
import java.nio.file.Files;
import java.nio.file.Path;
import java.util.Arrays;
import java.util.Set;
import java.util.TreeSet;
import java.util.regex.Matcher;
import java.util.regex.Pattern;

/** The public face, and the rules of LANGUAGE.md that can be seen in the class and in its source. */
public final class LanguageTest {
    private static final String SOURCE = "src/main/java/VotedFor.java";
    private static final String FACE = "feed(int,int)int matter()int of(int,int)int sum(int,int)int many(int)long "
        + "table(int,long,int)int drawn(int,long,int)int may(int,int,int)int open(int,int,int)int ends(int,int,int)int "
        + "inAll(int,int,int)int sure(int,int)int next(int,int)int opens(int,int,int)int hold(int,int,int,int,int)int "
        + "by(int,int,int,int)int none(int,int)int claim(int,int,int,int)int must(int,int,int,int)int line(int,int)int "
        + "wrong(int,int)int second(int,long)int split(int,int,int)int splits(int,int)int changed(int,int)int "
        + "parted(int,int,int,int)int weight(int,int,int)int likeliest(int,int)int weighs(int,int)int "
        + "chance(int,int,int)int knowing(int)int act(int,int,int)int trace(int)int keep(int,int)int row(int,int,int)int "
        + "put(int,int,long)int element(int,int)long shift(int,int,int,int,int)int taken(int,int)int "
        + "boxes(int,int,int,int)int count(int)int";
    private static final String[] BANNED = {"\\bpackage\\b", "::", "\\w+Exact\\b", "\\bfinally\\b", "\\bsynchronized\\b",
        "\\bassert\\b", "\\bSystem\\.(?!arraycopy)", "\\bhashCode\\b", "\\bvolatile\\b", "\\bnative\\b", "\\btransient\\b",
        "\\b(Object|Number|Long\\.valueOf|Random|Thread|Runtime|Map|HashMap|Set|HashSet)\\b", "\\bgetMessage\\b",
        "\\bimport (?!java\\.util\\.(ArrayList|List|Arrays|Iterator|NoSuchElementException);)", "\\btry *\\(",
        "(?<!\\bimport )\\bjava\\.", "\\b(NullPointer|ArrayIndexOutOfBounds|ClassCast|NegativeArraySize|ArrayStore)Exception\\b"};
    private static int wrong;

    public static void main(String[] args) throws IOException {
        face();
        constants();
        classes();
        source(Files.readString(Path.of(SOURCE), StandardCharsets.ISO_8859_1));
        if (wrong == 0) return;
        System.out.println(wrong + " rules are broken");
        System.exit(1);
    }

    private static void due(boolean holds, String what) {
        if (holds) return;
        wrong++;
        System.out.println(what);
    }

    private static String faceOf(Method m) {
        StringBuilder text = new StringBuilder(m.getName() + "(");
        for (Class<?> type : m.getParameterTypes()) text.append(text.charAt(text.length() - 1) == '(' ? "" : ",").append(type);
        return text + ")" + m.getReturnType();
    }

    private static void face() {
        due(Modifier.isPublic(VotedFor.class.getModifiers()) && Modifier.isFinal(VotedFor.class.getModifiers()), "the class is public and final");
        Set<String> due = new TreeSet<>(Arrays.asList(FACE.split(" ")));
        Set<String> is = new TreeSet<>();
        Set<String> names = new TreeSet<>();
        for (String call : due) names.add(call.substring(0, call.indexOf('(')));
        for (Method m : VotedFor.class.getDeclaredMethods()) {
            if (!Modifier.isPrivate(m.getModifiers())) is.add(faceOf(m));
            else due(!names.contains(m.getName()), "a private method bears the name " + m.getName());
            if (Modifier.isPublic(m.getModifiers())) due(!Modifier.isStatic(m.getModifiers()), m + " is static");
        }
        due(is.equals(due), "the face is " + is + ", due is " + due);
        for (Class<?> c : VotedFor.class.getDeclaredClasses()) {
            for (Method m : c.getDeclaredMethods()) due(!names.contains(m.getName()), "a method inside bears the name " + m);
        }
        due(VotedFor.class.getDeclaredConstructors().length == 1
            && Modifier.isPublic(VotedFor.class.getDeclaredConstructors()[0].getModifiers())
            && VotedFor.class.getDeclaredConstructors()[0].getParameterCount() == 0, "one public constructor");
    }

    private static void constants() {
        Set<String> is = new TreeSet<>();
        for (Field f : VotedFor.class.getDeclaredFields()) {
            int m = f.getModifiers();
            if (Modifier.isPrivate(m)) continue;
            due(Modifier.isPublic(m) && Modifier.isStatic(m) && Modifier.isFinal(m) && f.getType() == int.class, f + " is no public constant");
            is.add(f.getName());
        }
        due(is.equals(Set.of("BAD", "NOT", "FULL", "BIG", "STATE", "VOID")), "the constants are " + is);
    }

    private static void classes() {
        Class<?>[] inside = VotedFor.class.getDeclaredClasses();
        due(inside.length <= 11, inside.length + " classes inside");
        for (Class<?> c : inside) {
            due(Modifier.isStatic(c.getModifiers()), c + " is not static");
            due(!Modifier.isPublic(c.getModifiers()) && !Modifier.isProtected(c.getModifiers()), c + " is public or protected");
            looks(c);
        }
        looks(VotedFor.class);
    }

    private static void looks(Class<?> c) {
        int own = 0;
        for (Field f : c.getDeclaredFields()) {
            if (Modifier.isStatic(f.getModifiers())) due(Modifier.isFinal(f.getModifiers()), f + " is static and not final");
            else own++;
        }
        due(own <= 20, c + " has " + own + " fields");
        for (Executable m : c.getDeclaredMethods()) due(m.getParameterCount() <= 7, m + " takes too many");
        for (Executable m : c.getDeclaredConstructors()) due(m.getParameterCount() <= 7, m + " takes too many");
    }

    private static void source(String text) {
        for (int i = 0; i < text.length(); i++) due(text.charAt(i) < 127, "a sign above 126 at " + i);
        String code = text.replaceAll("(?s)/\\*.*?\\*/", "").replaceAll("//[^\n]*", "");
        for (String banned : BANNED) {
            Matcher m = Pattern.compile(banned).matcher(code);
            due(!m.find(), "the source holds " + banned);
        }
        int lines = 0;
        for (String line : text.split("\n")) {
            if (line.contains("->")) due(line.matches(".*\\b(case\\b.*|default *)->.*"), "a lambda: " + line);
            boolean begins = line.matches("( {4}| {8})(public|private|static|void|int|long|boolean|[A-Z]\\w*)\\b.*\\{");
            lines = begins && !line.contains(" class ") ? 0 : lines + 1;
            if (line.matches("( {4}| {8})\\}")) due(lines <= 60, "a method of " + lines + " lines ends in " + line);
            if (line.matches(" {4}\\}")) lines = 0;
        }
    }
}
