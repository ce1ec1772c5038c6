import java.lang.reflect.Constructor;
import java.lang.reflect.Field;
import java.lang.reflect.Method;
import java.lang.reflect.Modifier;
import java.nio.file.Files;
import java.nio.file.Path;
import java.util.ArrayList;
import java.util.HashSet;
import java.util.List;
import java.util.Set;
import java.util.TreeSet;
import java.util.regex.Matcher;
import java.util.regex.Pattern;

/** The document's face, and those rules of LANGUAGE.md that can be seen by looking at the class and its text. */
public final class LanguageTest {
    private static final Path SOURCE = Path.of("src/main/java/PosterWall.java");
    private static final String[] FACE = {
        "ask(int)int", "at(int,int,int)int", "back()int", "copy(int,int,int,int,int)int", "count(int)int", "days(int)int",
        "digest()long", "fault(int)int", "forget()int", "get(int,int,int)int", "law(int)int", "lay(int,int,int,int)int",
        "lose(int)int", "never()int", "obeyed(int)int", "often()int", "paste(int,int)int", "poster(int,int)int",
        "rain(int)int", "read(int)int", "rip(int,int)int", "season(int,int,int)int", "seen(int,int,int)int",
        "sheet(int,int,int)int", "shower(int,int,int,int)long", "stick(int,int)int", "tear(int,int)int",
        "type(int,int)int", "undo(int)int", "unread()int", "was(int,int)int", "wet(int)int", "wipe(int)int",
        "write(int,int)int"};
    private static final String[] NEVER = {
        "\\bthrow\\b", "\\btry\\b", "\\bcatch\\b", "\\bsynchronized\\b", "\\bassert\\b", "\\bgoto\\b", "->", "::",
        "Exact\\b", "\\bRandom\\b", "\\bThread\\b", "\\bMIN_VALUE\\b", "\\bMAX_VALUE\\b", "\\bdouble\\b", "\\bfloat\\b",
        "\\bSystem\\.(?!arraycopy\\b)", "\\bArrays\\.(?!copyOf\\b|copyOfRange\\b|fill\\b)", "\\bstatic\\s*\\{",
        "\\bpackage\\b", "\\bObject\\b", "\\bhashCode\\b", "\\btoString\\b", "\\bnull\\b", "\\bwhile\\s*\\(true", "for\\s*\\(;;"};

    private static int wrong = 0;

    private static void want(boolean so, String what) {
        if (!so) {
            wrong++;
            System.out.println("LANGUAGE.md: " + what);
        }
    }

    public static void main(String[] args) throws Exception {
        face();
        List<Class<?>> all = new ArrayList<>();
        all.add(PosterWall.class);
        for (Class<?> inside : PosterWall.class.getDeclaredClasses()) all.add(inside);
        want(all.size() <= 12, "at most some twelve classes");
        for (Class<?> c : all) members(c);
        String text = bare(Files.readString(SOURCE));
        words(text);
        lengths(text);
        System.out.println("LanguageTest: " + wrong + " wrong");
        if (wrong != 0) System.exit(1);
    }

    private static void face() {
        want(Modifier.isPublic(PosterWall.class.getModifiers()), "the class is public");
        want(Modifier.isFinal(PosterWall.class.getModifiers()), "the class is final");
        Set<String> got = new TreeSet<>();
        for (Method m : PosterWall.class.getDeclaredMethods()) {
            if (!Modifier.isPrivate(m.getModifiers())) got.add(signature(m));
            want(Modifier.isPrivate(m.getModifiers()) || !Modifier.isStatic(m.getModifiers()), m + " is static");
        }
        want(got.equals(new TreeSet<>(List.of(FACE))), "the face is " + got);
        Set<String> constants = new TreeSet<>();
        for (Field f : PosterWall.class.getDeclaredFields()) {
            if (!Modifier.isPrivate(f.getModifiers())) constants.add(f.getName());
        }
        want(constants.equals(Set.of("NONE", "BAD", "NOT", "FULL")), "the constants are " + constants);
        Constructor<?>[] makers = PosterWall.class.getDeclaredConstructors();
        want(makers.length == 1 && makers[0].getParameterCount() == 0 && Modifier.isPublic(makers[0].getModifiers()),
            "one public constructor without parameters");
    }

    private static String signature(Method m) {
        StringBuilder s = new StringBuilder(m.getName()).append('(');
        for (int i = 0; i < m.getParameterCount(); i++) s.append(i > 0 ? "," : "").append(m.getParameterTypes()[i]);
        return s.append(')').append(m.getReturnType()).toString();
    }

    private static void members(Class<?> c) {
        if (c != PosterWall.class) {
            want(Modifier.isStatic(c.getModifiers()), c + " is static");
            want(!Modifier.isPublic(c.getModifiers()) && !Modifier.isProtected(c.getModifiers()), c + " is not public");
            want(c.getDeclaredClasses().length == 0, c + " has no class inside");
        }
        int fields = 0;
        for (Field f : c.getDeclaredFields()) {
            boolean fixed = Modifier.isStatic(f.getModifiers());
            want(!fixed || Modifier.isFinal(f.getModifiers()), f + " is final");
            if (!fixed) fields++;
        }
        want(fields <= 20, c + " has " + fields + " fields");
        Set<String> open = new HashSet<>();
        for (String signature : FACE) open.add(signature.substring(0, signature.indexOf('(')));
        for (Method m : c.getDeclaredMethods()) {
            want(m.getParameterCount() <= 7, m + " has at most seven parameters");
            boolean ofFace = c == PosterWall.class && Modifier.isPublic(m.getModifiers());
            want(ofFace || !open.contains(m.getName()), m + " bears the name of a public method");
        }
    }

    /** Without comments, and with empty texts and signs. */
    private static String bare(String text) {
        return text.replaceAll("(?s)/\\*.*?\\*/", "").replaceAll("//[^\\n]*", "")
            .replaceAll("\"(\\\\.|[^\"\\\\])*\"", "\"\"").replaceAll("'(\\\\.|[^'\\\\])'", "' '");
    }

    private static void words(String text) {
        for (String word : NEVER) want(!Pattern.compile(word).matcher(text).find(), "no " + word);
        Matcher imports = Pattern.compile("import ([^;]*);").matcher(text);
        while (imports.find()) {
            want(Set.of("java.util.Arrays", "java.util.ArrayList", "java.util.List").contains(imports.group(1)),
                "no import of " + imports.group(1));
        }
    }

    /** A method begins four or eight deep and ends with a brace as deep. */
    private static void lengths(String text) {
        String[] lines = text.split("\n");
        for (int i = 0; i < lines.length; i++) {
            Matcher m = Pattern.compile("^( {4}| {8})(?! )[^=;]*\\([^;]*\\) \\{$").matcher(lines[i]);
            if (!m.find()) continue;
            int end = i;
            while (end < lines.length && !lines[end].equals(m.group(1) + "}")) end++;
            want(end - i < 60, "a method of " + (end - i + 1) + " lines: " + lines[i].trim());
        }
        for (String line : lines) want(line.length() <= 120, "a line of " + line.length() + " signs: " + line.trim());
    }
}
