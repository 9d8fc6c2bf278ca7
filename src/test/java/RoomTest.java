import com.sun.management.ThreadMXBean;
import java.lang.management.ManagementFactory;

/** All calls live in one room: no call makes an object, and a new object is small. */
public final class RoomTest {
    private static final int ROUNDS = 40;

    public static void main(String[] args) {
        Checks.part("room");
        ThreadMXBean threads = (ThreadMXBean) ManagementFactory.getThreadMXBean();
        QuarrelMiles x = new QuarrelMiles();
        long sum = round(x);
        long before = threads.getCurrentThreadAllocatedBytes();
        long nothing = threads.getCurrentThreadAllocatedBytes() - before;
        before = threads.getCurrentThreadAllocatedBytes();
        for (int i = 0; i < ROUNDS; i++) {
            sum += round(x);
        }
        long made = threads.getCurrentThreadAllocatedBytes() - before - nothing;
        // Less than the smallest object a round; what the machine makes for itself is let pass.
        Checks.due("bytes made by " + ROUNDS + " rounds of calls are few: " + made, made < 16L * ROUNDS, true);
        before = threads.getCurrentThreadAllocatedBytes();
        QuarrelMiles[] many = new QuarrelMiles[100];
        for (int i = 0; i < many.length; i++) {
            many[i] = new QuarrelMiles();
            sum += many[i].about(7);
        }
        made = threads.getCurrentThreadAllocatedBytes() - before;
        Checks.due("bytes made by 100 objects are few: " + made, made < 100L * 40000, true);
        Checks.due("the answers were looked at", sum != 0, true);
        Checks.close();
    }

    private static final int[] TEXT = words("place a echo 1;place b;place c;way a to b 3 sight 1;way b to c 2;way a to c 5;"
        + "soul p stubborn 1 short 1;soul q stubborn 2 short 2;soul r stubborn 3 short 3;matter m burns 5 of 1 2 3;"
        + "matter n burns 9 of 4 4;heat heat - (1 + grief > stubborn) - not_;back grief - 1;".replace("not_", "(not 1)"));

    private static int[] words(String text) {
        int[] words = new int[(text.length() + 19) / 20 * 5];
        for (int i = 0; i < 4 * words.length; i++) {
            int sign = i < text.length() ? text.charAt(i) : ' ';
            words[i / 4] = words[i / 4] << 8 | sign;
        }
        return words;
    }

    private static long round(QuarrelMiles x) {
        long sum = x.end(0);
        for (int i = 0; i < TEXT.length; i += 5) {
            sum += x.feed(TEXT[i], TEXT[i + 1], TEXT[i + 2], TEXT[i + 3], TEXT[i + 4]);
        }
        sum += x.land() + x.fault(0) + x.soul(0, 0) + x.way(0, 2) + x.quarrel(0, 1, 0) + x.heat(0, 1, 0, 3);
        sum += x.setOut(0, 1, 0, 0) + x.take(0) + x.words(2) + x.year() + x.walk(3);
        sum += (x.undo() ? 1 : 0) + (x.redo() ? 1 : 0) + x.start(0) + x.step(0) + x.walked(0, 1, 0, 0);
        sum += x.shortest(0, 2) + x.send(0, 2) + x.measure(0, 1, 0, 2, true) + x.adds(0, 1) + x.fair() + x.cover();
        sum += x.turned() + x.loud(0, 1, 0, 0) + x.home(0, 1, 0, 0, 2, 4) + x.temper(0, 1, 0, 7) + x.lies(0);
        sum += x.report(0, 1, 0, 0) + (x.untell(0) ? 1 : 0) + x.later(1) + x.miles(0) + x.ask(0, 0);
        sum += x.image(0) + x.back(0) + x.about(0);
        return sum;
    }
}
