/** Counts answers that are not as due, and tells each of them. */
final class Check {
    private final String name;
    private String promise = "";
    private int asked = 0;
    private int wrong = 0;

    Check(String name) {
        this.name = name;
    }

    void promise(String which) {
        promise = which;
    }

    void due(String call, long got, long want) {
        asked++;
        if (got != want) fault(call + " answered " + got + ", due is " + want);
    }

    void fault(String what) {
        wrong++;
        System.out.println("promise " + promise + ": " + what);
    }

    int asked() {
        return asked;
    }

    /** Tells the sum, and ends the program with 1 if something was wrong. */
    void end() {
        System.out.println(name + ": " + asked + " answers, " + wrong + " wrong");
        if (asked == 0 || wrong != 0) System.exit(1);
    }

    static PosterWall wall(String posters, String rains, String law) {
        PosterWall wall = new PosterWall();
        type(wall, 0, posters);
        type(wall, 1, rains);
        type(wall, 2, law);
        return wall;
    }

    static void type(PosterWall wall, int text, String bytes) {
        for (int i = 0; i < bytes.length(); i++) {
            if (wall.type(text, bytes.charAt(i)) != i + 1) throw new IllegalStateException("typing " + bytes);
        }
    }
}
