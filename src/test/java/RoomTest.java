import com.sun.management.ThreadMXBean;
import java.lang.management.ManagementFactory;

/** All calls of a run share one room: rows are made with the object, and no call makes anything. */
public final class RoomTest {
    private static final long BYTES_OF_AN_OBJECT = 24 * 1024;
    private static int wrong = 0;

    private static void must(boolean holds, String what) {
        if (!holds) {
            wrong++;
            System.out.println("broken: " + what);
        }
    }

    /** Fewer than 512 calls, each of the face among them, in a full house. */
    private static int useAll(PittanceHouse x, String text) {
        int sum = 0;
        for (int b = 0; b < 16; b++) {
            sum += x.come(50 + b, b % 3 == 0);
        }
        for (int c = 0; c < 8; c++) {
            sum += x.choose(c) + x.feast(c * 5, 1 + c) + x.voice(c, 8 + c);
        }
        sum += x.breach(1, 1) + x.pardon(1) + x.gift(500) + x.weeks(60) + x.leave(3) + x.withdraw(15) + x.weeks(60);
        for (int what = -1; what < 18; what++) {
            sum += x.brotherOf(9, what) + x.brotherOf(2, what) + x.account(what) + x.broke(what, what) + x.inCell(what);
            sum += x.voices(what) + x.voicesAgain(what) + x.ranked(what) + x.senior(what) + x.shabby(what);
        }
        for (int i = 0; i < text.length(); i++) {
            sum += x.append(text.charAt(i));
        }
        sum += x.run() + x.run() + x.wouldGet(0, 60) + x.chestIn(60) + x.entitled() + x.entitledAgain();
        sum += x.nextFeast() + x.tell() + x.tellWaiting() + x.character(3) + x.reason(true) + x.isBalanced();
        sum += (int) x.meanAge() + (int) x.entitledShare() + x.undo() + x.save() + x.undo() + x.restore() + x.undo();
        return sum;
    }

    public static void main(String[] args) {
        ThreadMXBean threads = (ThreadMXBean) ManagementFactory.getThreadMXBean();
        String text = "gift 1;weeks 60;breach 0 1;voice 2 9;choose 3;leave 1";
        long self = Thread.currentThread().getId();
        int first = useAll(new PittanceHouse(), text);
        threads.getThreadAllocatedBytes(self);
        long before = threads.getThreadAllocatedBytes(self);
        PittanceHouse x = new PittanceHouse();
        long made = threads.getThreadAllocatedBytes(self);
        int second = useAll(x, text);
        long after = threads.getThreadAllocatedBytes(self);
        must(first == second, "the same calls give the same answers");
        must(made - before <= BYTES_OF_AN_OBJECT, "an object takes " + (made - before) + " bytes");
        must(after - made <= 512, "the calls make " + (after - made) + " bytes");
        System.out.println(wrong == 0 ? "an object takes " + (made - before) + " bytes, its calls none" : "too much room");
        if (wrong != 0) {
            System.exit(1);
        }
    }
}
