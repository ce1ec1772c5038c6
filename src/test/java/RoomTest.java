import com.sun.management.ThreadMXBean;
import java.lang.management.ManagementFactory;

/** All calls of a run live in one room: an object needs little of it, and its calls none. */
public final class RoomTest {
    private static final long OBJECT = 40_000;
    private static final long NOISE = 20_000;

    private static long sum = 0;

    public static void main(String[] args) {
        ThreadMXBean threads = (ThreadMXBean) ManagementFactory.getThreadMXBean();
        long me = Thread.currentThread().getId();
        everyCall(new PosterWall());
        long ahead = threads.getThreadAllocatedBytes(me);
        PosterWall wall = new PosterWall();
        long made = threads.getThreadAllocatedBytes(me);
        for (int i = 0; i < 12; i++) everyCall(wall);
        long used = threads.getThreadAllocatedBytes(me);
        System.out.println("RoomTest: an object takes " + (made - ahead) + " bytes, its calls " + (used - made));
        if (made - ahead > OBJECT || used - made > NOISE) System.exit(1);
    }

    private static void everyCall(PosterWall x) {
        for (int text = 0; text < 3; text++) sum += x.wipe(text);
        tell(x, 0, "000k1ab;000k2bc;011k3cd;022k1de;033k1ef;044k1gh;055k1h");
        tell(x, 1, "12345678911234567891");
        tell(x, 2, "aaaaaa");
        for (int i = 0; i < 8; i++) sum += x.tear(i, i % 6) + x.seen(i, i % 6, i);
        for (int text = 0; text < 3; text++) sum += x.fault(text) + x.undo(text);
        for (int p = 0; p < 7; p++) {
            sum += x.poster(p, 5) + x.paste(p, 0) + x.stick(p, 0) + x.was(p, 0) + x.was(p, 1) + x.ask(p);
        }
        sum += x.rain(3) + x.law(3) + x.at(3, 3, 3) + x.obeyed(3) + x.days(0) + x.unread() + x.often();
        sum += x.rip(19, 0) + x.wet(19) + x.never() + x.shower(5, 9, 19, 1) + x.season(5, 20, 1);
        for (int s = 0; s < 4; s++) sum += x.sheet(s, 2, 60) + x.lay(s, 2, s, s) + x.get(s, 2, s) + x.write(s, s);
        sum += x.copy(0, 0, 1, 0, 60) + x.read(2) + x.lose(3) + x.lose(3) + x.count(8) + x.digest();
        sum += x.forget();
        for (int i = 0; i < 8; i++) sum += x.back();
    }

    private static void tell(PosterWall x, int text, String bytes) {
        for (int i = 0; i < bytes.length(); i++) sum += x.type(text, bytes.charAt(i));
    }
}
