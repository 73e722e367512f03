import java.lang.management.ManagementFactory;

/** The dearest runs must stay far below the room that all calls share. */
public final class RoomTest {
    private static final Check check = new Check("RoomTest");
    private static final int CALLS = 512;

    public static void main(String[] args) {
        com.sun.management.ThreadMXBean threads = (com.sun.management.ThreadMXBean) ManagementFactory.getThreadMXBean();
        long self = Thread.currentThread().getId();
        dearTexts();
        long before = threads.getThreadAllocatedBytes(self);
        dearTexts();
        long texts = threads.getThreadAllocatedBytes(self) - before;
        before = threads.getThreadAllocatedBytes(self);
        dearSearches();
        long searches = threads.getThreadAllocatedBytes(self) - before;
        System.out.println("RoomTest: texts " + texts + " bytes, searches " + searches + " bytes");
        check.due("texts", texts < 2000000, true);
        check.due("searches", searches < 200000, true);
        check.finish();
    }

    private static void dearTexts() {
        MatchBook x = new MatchBook();
        int word = 0x6261723b;
        for (int k = 0; k < 3; k++) {
            x.image(k);
        }
        for (int calls = 3; calls + 5 <= CALLS; calls += 5) {
            x.feed(word, word, word, word, word);
            x.feed(word, word, word, word, word);
            x.feed(word, word, word, word, word);
            x.feed(word, 0x20202020, 0x20202020, 0x20202020, 0x20202020);
            check.due("text", x.text(calls % 5), 16);
        }
    }

    private static void dearSearches() {
        MatchBook x = new MatchBook();
        for (int k = 0; k < 8; k++) {
            x.house(0, k % 5, 100);
        }
        for (int k = 0; k < 20; k++) {
            x.person(k % 8, k / 8 % 2, k % 8, -k);
        }
        for (int calls = 28; calls < CALLS; calls++) {
            int which = calls % 6;
            if (which == 0) x.best(0);
            else if (which == 1) x.stable(1);
            else if (which == 2) x.ring(0);
            else if (which == 3) x.count(11);
            else if (which == 4) x.parts(0);
            else x.chain(0, 19, 0, 0, 1);
        }
    }
}
