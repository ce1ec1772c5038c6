import java.lang.reflect.Method;
import java.lang.reflect.Modifier;
import java.util.ArrayList;
import java.util.Comparator;
import java.util.List;
import java.util.Random;

/** Many runs of calls, drawn by a fixed seed: PosterWall has to answer each as the Model does. */
public final class ModelTest {
    private static final int RUNS = 600;
    private static final int CALLS = 512;

    private final Random random;
    private final PosterWall wall = new PosterWall();
    private final Model model = new Model();
    private final List<String> calls = new ArrayList<>();
    private String wrong = null;

    private ModelTest(long seed) {
        random = new Random(seed);
    }

    public static void main(String[] args) throws Exception {
        int runs = args.length > 0 ? Integer.parseInt(args[0]) : RUNS;
        long start = args.length > 1 ? Long.parseLong(args[1]) : 1;
        int wrongs = 0;
        long asked = 0;
        for (long seed = start; seed < start + runs && wrongs < 3; seed++) {
            ModelTest test = new ModelTest(seed);
            test.run();
            asked += test.calls.size();
            if (test.wrong != null) {
                wrongs++;
                System.out.println("seed " + seed + ": " + String.join(", ", test.calls) + "\n  " + test.wrong);
            }
        }
        System.out.println("ModelTest: " + runs + " runs, " + asked + " calls, " + wrongs + " wrong");
        if (wrongs != 0) System.exit(1);
    }

    private void run() throws Exception {
        List<Method> methods = new ArrayList<>();
        for (Method m : PosterWall.class.getDeclaredMethods()) {
            if (Modifier.isPublic(m.getModifiers())) methods.add(m);
        }
        methods.sort(Comparator.comparing(Method::getName));
        typeAll(0, posters());
        typeAll(1, rains());
        typeAll(2, law());
        int dear = 3;
        while (calls.size() < CALLS && wrong == null) {
            Method m = methods.get(random.nextInt(methods.size()));
            switch (m.getName()) {
                case "digest": case "shower":
                    if (dear-- <= 0) continue;
                    call(m.getName(), arguments(m));
                    break;
                case "stick": case "ask":
                    if (random.nextInt(4) == 0) call(m.getName(), arguments(m));
                    break;
                case "wipe":
                    if (random.nextInt(6) == 0) retell(random.nextInt(3));
                    else if (random.nextInt(6) == 0) call("wipe", number(3));
                    break;
                case "type": case "undo":
                    if (random.nextInt(6) == 0) call(m.getName(), arguments(m));
                    break;
                case "forget":
                    if (random.nextInt(3) == 0) call("forget");
                    break;
                case "tear":
                    tearSomething();
                    break;
                case "seen":
                    seeSomething();
                    break;
                case "sheet": case "lay": case "get": case "copy": case "read": case "write":
                    sheetCall(m);
                    break;
                default:
                    call(m.getName(), arguments(m));
            }
        }
    }

    private void retell(int text) throws Exception {
        call("wipe", text);
        typeAll(text, text == 0 ? posters() : text == 1 ? rains() : law());
    }

    private void typeAll(int text, String s) throws Exception {
        for (int i = 0; i < s.length(); i++) call("type", text, s.charAt(i));
    }

    private String posters() {
        StringBuilder s = new StringBuilder();
        int n = random.nextInt(10);
        int columns = 1 + random.nextInt(6);
        int lastDay = random.nextBoolean() ? 20 : 1 + random.nextInt(8);
        for (int i = 0; i < n && s.length() < 79; i++) {
            if (i > 0) s.append(';');
            int day = random.nextInt(lastDay);
            s.append(day / 10).append(day % 10).append(random.nextInt(columns)).append("ryk".charAt(random.nextInt(3)));
            s.append(1 + random.nextInt(random.nextBoolean() ? 3 : 9));
            int letters = 1 + random.nextInt(4);
            for (int k = 0; k < letters; k++) s.append((char) ('a' + random.nextInt(random.nextBoolean() ? 2 : 8)));
        }
        if (s.length() > 0 && random.nextInt(12) == 0) s.setCharAt(random.nextInt(s.length()), odd());
        if (s.length() > 0 && random.nextInt(15) == 0) s.setLength(random.nextInt(s.length()));
        return s.toString();
    }

    private char odd() {
        String near = "/:`i;.0a29r56@";
        return random.nextBoolean() ? near.charAt(random.nextInt(near.length())) : (char) random.nextInt(256);
    }

    private String rains() {
        StringBuilder s = new StringBuilder();
        int n = random.nextInt(22);
        boolean dry = random.nextBoolean();
        for (int i = 0; i < n; i++) s.append(dry && random.nextBoolean() ? 0 : random.nextInt(10));
        if (n > 0 && random.nextInt(15) == 0) s.setCharAt(random.nextInt(n), odd());
        return s.toString();
    }

    /** Mostly what is read on some day, so that it is obeyed now and then. */
    private String law() {
        StringBuilder s = new StringBuilder();
        int day = random.nextInt(20);
        int n = random.nextInt(8);
        boolean sparse = random.nextBoolean();
        for (int i = 0; i < n; i++) {
            int read = i < 6 ? model.at(day, i, 0) : 0;
            if (random.nextInt(10) == 0) read = random.nextInt(8);
            s.append(read < 0 || sparse && random.nextInt(3) > 0 ? '.' : (char) ('a' + read));
        }
        if (n > 0 && random.nextInt(15) == 0) s.setCharAt(random.nextInt(n), odd());
        return s.toString();
    }

    private void tearSomething() throws Exception {
        if (random.nextInt(5) == 0) {
            call("tear", number(20), number(6));
        } else if (random.nextInt(2) == 0) {
            int column = random.nextInt(6);
            int day = random.nextInt(20);
            if (model.at(day, column, 3) > 0) call("tear", day, column);
        }
    }

    private void seeSomething() throws Exception {
        if (random.nextInt(6) == 0) {
            call("seen", number(20), number(6), number(9));
            return;
        }
        int day = random.nextInt(20);
        int column = random.nextInt(6);
        int read = model.at(day, column, 0);
        call("seen", day, column, read < 0 ? 8 : read);
    }

    private void sheetCall(Method m) throws Exception {
        int[] a = arguments(m);
        if (m.getName().equals("sheet") && random.nextInt(8) != 0) a[2] = random.nextInt(14);
        if (m.getName().equals("lay") && random.nextInt(3) != 0) a[3] = random.nextInt(7);
        if (m.getName().equals("copy") && random.nextInt(2) != 0) {
            a[1] = random.nextInt(5);
            a[3] = random.nextInt(5);
            a[4] = random.nextInt(6);
        }
        call(m.getName(), a);
    }

    private int[] arguments(Method m) {
        String[] bounds = bounds(m.getName()).split(" ");
        int[] a = new int[m.getParameterCount()];
        for (int i = 0; i < a.length; i++) {
            a[i] = bounds[i].equals("*") ? any() : number(Integer.parseInt(bounds[i]));
        }
        return a;
    }

    private static String bounds(String name) {
        switch (name) {
            case "type": return "3 256";
            case "wipe": case "undo": case "fault": return "3";
            case "poster": return "9 9";
            case "rain": case "obeyed": case "wet": return "20";
            case "law": return "6";
            case "tear": return "20 6";
            case "read": case "lose": return "4";
            case "at": return "20 6 6";
            case "days": return "2";
            case "rip": return "20 2";
            case "paste": case "was": return "8 2";
            case "stick": return "8 3";
            case "seen": return "20 6 9";
            case "ask": return "8";
            case "shower": return "17 10 20 2";
            case "season": return "* 21 2";
            case "sheet": return "4 3 61";
            case "lay": return "4 3 8 *";
            case "get": return "4 3 8";
            case "copy": return "4 6 4 6 6";
            case "write": return "20 4";
            case "count": return "9";
            default: return "";
        }
    }

    /** Mostly below a bound, now and then at its edge or far off. */
    private int number(int bound) {
        int k = random.nextInt(40);
        if (k == 0) return -1;
        if (k == 1) return bound;
        if (k == 2) return any();
        if (k == 3) return bound - 1;
        return random.nextInt(bound);
    }

    private int any() {
        int[] edges = {Integer.MIN_VALUE, Integer.MAX_VALUE, Integer.MAX_VALUE - 1, -2, -1, 255, 256, 127, 128, 32767,
            32768, 65535};
        return random.nextBoolean() ? edges[random.nextInt(edges.length)] : random.nextInt();
    }

    private void call(String name, int... a) throws Exception {
        if (wrong != null || calls.size() >= CALLS) return;
        Class<?>[] kinds = new Class<?>[a.length];
        Object[] arguments = new Object[a.length];
        StringBuilder told = new StringBuilder(name).append('(');
        for (int i = 0; i < a.length; i++) {
            kinds[i] = int.class;
            arguments[i] = a[i];
            told.append(i > 0 ? ", " : "").append(a[i]);
        }
        calls.add(told.append(')').toString());
        Object got = PosterWall.class.getMethod(name, kinds).invoke(wall, arguments);
        Object due = Model.class.getMethod(name, kinds).invoke(model, arguments);
        if (!got.equals(due)) wrong = told + " answered " + got + ", due is " + due;
    }
}
