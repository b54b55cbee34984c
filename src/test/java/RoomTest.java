import com.sun.management.ThreadMXBean;
import java.lang.management.ManagementFactory;

/** All calls of a run live in one room: the dearest 512 calls make next to nothing. */
public final class RoomTest extends Dues {
    // A hundredth of the room of 7.3 million fields and elements, by 8 bytes each.
    private static final long MOST_BYTES_MADE = 73_000L * 8;

    public static void main(String[] args) throws Exception {
        runAll(RoomTest.class);
    }

    private static long bytesMade() {
        return ((ThreadMXBean) ManagementFactory.getThreadMXBean()).getThreadAllocatedBytes(Thread.currentThread().getId());
    }

    private static void anObject() {
        new AlikeUnlike();
        long before = bytesMade();
        AlikeUnlike x = new AlikeUnlike();
        due("little is made", bytesMade() - before <= MOST_BYTES_MADE ? 1 : 0, 1);
        due("ROWS", x.count(2), 0);
    }

    private static void theDearestCalls() {
        call(ready());
        AlikeUnlike x = ready();
        long before = bytesMade();
        call(x);
        due("little is made", bytesMade() - before <= MOST_BYTES_MADE ? 1 : 0, 1);
    }

    private static AlikeUnlike ready() {
        AlikeUnlike x = with("a-a+b-b+c-c+d-d=1&12>34|1>b+c+60:1;a+b+c>59:1;:0");
        for (int f = 0; f < 3; f++) {
            x.field(f, KIND, MAY);
        }
        for (int f = 0; f < 8; f++) {
            x.field(f, GREATEST, 20);
        }
        x.field(3, KIND, BARRED);
        for (int i = 0; i < 6; i++) {
            lay(x, "a+b*c-d>" + i + "|a=a|a-b<90");
        }
        for (int i = 0; i < 24; i++) {
            rows(x, i % 2 == 0 ? 0 : 202020L + unit(7));
        }
        return x;
    }

    private static void call(AlikeUnlike x) {
        put(x, times("(", 70));
        for (int i = 0; i < 8; i++) {
            due("seek", x.seek(NONE, 2000), SPENT);
            due("mend", x.mend(7, 0, 1, 0) >= NONE ? 1 : 0, 1);
            due("askings", x.askings(7, 9, 9, 9, 9, 1), 36);
        }
        for (int i = 0; i < 60; i++) {
            due("refused", x.refused(0, 0), 60);
            due("sameFor", x.sameFor(0, 3, 20), 60);
            due("odds", x.odds(7, 0, 1, 0), 1);
            due("where", x.where(0), 0);
            due("run", x.run(0, 2), 1);
            due("fault", x.fault(0), 70);
            x.digest();
        }
    }
}
