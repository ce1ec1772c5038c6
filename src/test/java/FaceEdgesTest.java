import java.io.IOException;
import java.lang.reflect.Constructor;
import java.lang.reflect.Field;
import java.lang.reflect.Method;
import java.lang.reflect.Modifier;
import java.nio.file.Files;
import java.nio.file.Path;
import java.util.ArrayList;
import java.util.List;
import java.util.regex.Matcher;
import java.util.regex.Pattern;

/** The class's face, in the document's own words and order, and what the document leaves free. */
public final class FaceEdgesTest {
    private static final Edges E = new Edges("FaceEdgesTest", "## The public face", "## Terms");
    private static final Path SOURCE = Path.of("src/main/java/PosterWall.java");
    private static final Path DOCUMENT = Path.of("../shared/DOC.md");
    private static final String[][] GROUPS = {
        {"posters, rains, the law, tears", "int type(int text, int b)", "int wipe(int text)", "int undo(int text)",
            "int fault(int text)", "int poster(int poster, int what)", "int rain(int day)", "int law(int column)",
            "int tear(int day, int column)", "int back()", "int read(int s)"},
        {"days", "int at(int day, int column, int what)", "int obeyed(int day)", "int days(int what)", "int unread()",
            "int often()"},
        {"plans", "int rip(int day, int i)", "int wet(int day)", "int paste(int poster, int what)",
            "int stick(int poster, int what)"},
        {"seen, showers, seasons", "int seen(int day, int column, int letter)", "int forget()", "int never()",
            "int was(int poster, int what)", "int ask(int poster)", "long shower(int c, int last, int day, int what)",
            "int season(int seed, int n, int what)"},
        {"sheets", "int sheet(int s, int form, int n)", "int lose(int s)", "int lay(int s, int form, int i, int v)",
            "int get(int s, int form, int i)", "int copy(int s, int i, int t, int j, int n)", "int write(int day, int s)",
            "int count(int what)", "long digest()"}};
    private static final int KINDS = 34;

    private static String source;

    private static void due(String call, long got, long want) {
        E.due(call, got, want);
    }

    private static void dueSo(String what, boolean so) {
        E.due(what, so ? 1 : 0, 1);
    }

    public static void main(String[] args) throws Exception {
        source = Files.readString(SOURCE);
        constants();
        methods();
        noMore();
        E.then("Ahead of the calls `type`", "## Promise 1:");
        groups();
        signatures();
        E.then("## Not promised", "");
        free();
        threads();
        nothingBeyond();
        E.end();
    }

    // ---- the face

    private static void constants() throws Exception {
        E.says("public final class PosterWall {");
        int kind = PosterWall.class.getModifiers();
        dueSo("public", Modifier.isPublic(kind));
        dueSo("final", Modifier.isFinal(kind));
        dueSo("no package", PosterWall.class.getPackageName().isEmpty());
        dueSo("above it nothing", PosterWall.class.getSuperclass() == Object.class);
        due("interfaces", PosterWall.class.getInterfaces().length, 0);

        E.says("public static final int NONE = -1, BAD = -2, NOT = -3, FULL = -4;");
        String[] names = {"NONE", "BAD", "NOT", "FULL"};
        for (int i = 0; i < 4; i++) {
            Field field = PosterWall.class.getField(names[i]);
            int wanted = Modifier.PUBLIC | Modifier.STATIC | Modifier.FINAL;
            dueSo(names[i] + " is a constant", (field.getModifiers() & wanted) == wanted);
            dueSo(names[i] + " is an int", field.getType() == int.class);
            due(names[i], field.getInt(null), -1 - i);
        }

        E.says("public PosterWall();");
        Constructor<?>[] makers = PosterWall.class.getDeclaredConstructors();
        due("constructors", makers.length, 1);
        dueSo("a public one", Modifier.isPublic(makers[0].getModifiers()));
        due("without parameters", makers[0].getParameterCount(), 0);
        due("that throws nothing", makers[0].getExceptionTypes().length, 0);
        due("of like objects", new PosterWall().digest(), ((PosterWall) makers[0].newInstance()).digest());
    }

    private static void methods() {
        int place = 0;
        for (String[] group : GROUPS) {
            for (int i = 1; i < group.length; i++) {
                E.says("public " + group[i] + ";");
                Method method = method(group[i]);
                dueSo(group[i] + " is there", method != null);
                if (method == null) continue;
                dueSo("public, of an object", Modifier.isPublic(method.getModifiers()) && !Modifier.isStatic(method.getModifiers()));
                due("throws nothing", method.getExceptionTypes().length, 0);
                int at = source.indexOf("    public " + group[i] + " {");
                dueSo(group[i] + " stands in the class, with these names, behind the one ahead", at > place);
                place = Math.max(place, at);
            }
        }
    }

    private static Method method(String signature) {
        for (Method m : PosterWall.class.getDeclaredMethods()) {
            if (!Modifier.isPrivate(m.getModifiers()) && signature(m).equals(bare(signature))) return m;
        }
        return null;
    }

    private static String signature(Method m) {
        List<String> kinds = new ArrayList<>();
        for (Class<?> kind : m.getParameterTypes()) kinds.add(kind.getName());
        return m.getReturnType() + " " + m.getName() + "(" + String.join(", ", kinds) + ")";
    }

    /** Without the parameters' names. */
    private static String bare(String signature) {
        return signature.replaceAll("int \\w+([,)])", "int$1");
    }

    private static void noMore() {
        E.says("}");
        int methods = 0;
        for (Method m : PosterWall.class.getDeclaredMethods()) if (!Modifier.isPrivate(m.getModifiers())) methods++;
        due("methods that are not private", methods, KINDS);
        int fields = 0;
        for (Field f : PosterWall.class.getDeclaredFields()) if (!Modifier.isPrivate(f.getModifiers())) fields++;
        due("fields that are not private", fields, 4);
        for (Class<?> c : PosterWall.class.getDeclaredClasses()) {
            dueSo(c + " is for the class alone", !Modifier.isPublic(c.getModifiers()) && !Modifier.isProtected(c.getModifiers()));
        }
    }

    // ---- the groups

    private static void groups() {
        String[] parts = source.split("\n    // ---- ");
        due("groups", parts.length - 1, GROUPS.length);
        for (int g = 0; g < GROUPS.length; g++) {
            String[] group = GROUPS[g];
            List<String> calls = new ArrayList<>();
            for (int i = 1; i < group.length; i++) calls.add("`" + name(group[i]) + "`");
            E.says("Ahead of the calls " + String.join(", ", calls) + " the interface says: ---- " + group[0] + ".");
            dueSo("the class says: " + group[0], g + 1 < parts.length && parts[g + 1].startsWith(group[0] + "\n"));
            if (g + 1 < parts.length) dueSo("ahead of " + calls, publicOf(parts[g + 1]).equals(calls));
        }
        dueSo("none stands ahead of them", publicOf(parts[0]).isEmpty());
    }

    private static String name(String signature) {
        return signature.replaceAll("^\\w+ (\\w+)\\(.*", "$1");
    }

    private static List<String> publicOf(String part) {
        List<String> names = new ArrayList<>();
        Matcher m = Pattern.compile("\n    public (?:int|long) (\\w+)\\(").matcher(part);
        while (m.find()) names.add("`" + m.group(1) + "`");
        return names;
    }

    /** The promises tell the calls a second time, each with its number. */
    private static void signatures() throws IOException {
        if (!Files.exists(DOCUMENT)) return;
        String document = Files.readString(DOCUMENT);
        int number = 2;
        for (String[] group : GROUPS) {
            for (int i = 1; i < group.length; i++, number++) {
                String head = "## Promise " + number + ": " + name(group[i]) + "\n\n`" + group[i] + "`: ";
                dueSo("the document has " + head.replace("\n", " "), document.contains(head));
            }
        }
        due("promises", number - 1, 35);
    }

    // ---- what is free

    private static void free() {
        E.says("How the state is held inside the object is free, as are the speed of each call, the text of toString and the"
            + " behaviour of equals and hashCode.");
        PosterWall x = Edges.some();
        long ahead = x.digest();
        // What they answer is free, but they are no calls that change something.
        dueSo("a text", x.toString() != null);
        dueSo("like itself", x.equals(x));
        dueSo("unlike nothing", !x.equals(null));
        due("as itself", x.hashCode(), x.hashCode());
        due("as it was", x.digest(), ahead);
    }

    /** One object is used by one thread; those of several threads have nothing in common. */
    private static void threads() throws InterruptedException {
        E.says("Use of one object from several threads at once is not promised to be safe.");
        long some = Edges.some().digest();
        long full = Edges.full().digest();
        long[][] got = new long[8][20];
        List<Thread> threads = new ArrayList<>();
        for (int i = 0; i < got.length; i++) {
            int me = i;
            threads.add(new Thread(() -> {
                PosterWall x = me % 2 == 0 ? Edges.some() : Edges.full();
                for (int k = 0; k < got[me].length; k++) got[me][k] = x.digest();
            }));
        }
        for (Thread thread : threads) thread.start();
        for (Thread thread : threads) thread.join();
        for (int i = 0; i < got.length; i++) for (long digest : got[i]) due("of a thread", digest, i % 2 == 0 ? some : full);
    }

    /** What an old object answers is free, but it has to answer: no call may throw or fail to end. */
    private static void nothingBeyond() throws Exception {
        E.says("Nothing is promised beyond the answers and state changes described above, and nothing about an object after its"
            + " 512th call.");
        int[] numbers = {0, 1, -1, 5, 8, 19, 20, 60, 97, 255, Integer.MIN_VALUE, Integer.MAX_VALUE};
        PosterWall old = Edges.full();
        for (int round = 0; round < 30; round++) {
            for (Method m : PosterWall.class.getDeclaredMethods()) {
                if (!Modifier.isPublic(m.getModifiers())) continue;
                Object[] arguments = new Object[m.getParameterCount()];
                for (int i = 0; i < arguments.length; i++) {
                    arguments[i] = round == 0 ? 0 : numbers[(round * 7 + i * (round % 5 + 1)) % numbers.length];
                }
                dueSo(m.getName() + " answers", m.invoke(old, arguments) != null);
            }
        }
        due("a new one is as ever", Edges.full().digest(), Edges.full().digest());
    }
}
