import com.sun.management.ThreadMXBean;
import java.lang.management.ManagementFactory;

/** What a run of 512 of the dearest calls makes stays far below the room of 600,000 objects and 7.3 million fields. */
public final class RoomTest {
    private static final long MOST_BYTES = 2_000_000;

    public static void main(String[] args) {
        room("proofs", RoomTest::proofs);
        room("cuts", RoomTest::cuts);
        room("weeks", RoomTest::weeks);
        room("texts", RoomTest::texts);
        room("new objects", () -> {
            for (int i = 0; i < 50; i++) {
                new LivesAhead().writer(1);
            }
        });
        Check.end("RoomTest");
    }

    private static void room(String what, Runnable run) {
        run.run();
        ThreadMXBean threads = (ThreadMXBean) ManagementFactory.getThreadMXBean();
        long before = threads.getCurrentThreadAllocatedBytes();
        run.run();
        long made = threads.getCurrentThreadAllocatedBytes() - before;
        System.out.println("RoomTest: " + what + " made " + made + " bytes");
        Check.due("room for " + what, made < MOST_BYTES, true);
    }

    private static void proofs() {
        LivesAhead x = new LivesAhead();
        x.writer(1);
        for (int i = 0; i < 30; i++) {
            x.person(1, 10, 1, 0);
            x.fact(i, 0, i, false);
        }
        Check.rule(x, "kin > 200");
        for (int i = 0; i < 120; i++) {
            x.rumour(1, 0, 0, 0, 29, 1, 1, 2, 1);
        }
        for (int i = 0; i < 327; i++) {
            x.may(29);
        }
    }

    private static void cuts() {
        LivesAhead x = new LivesAhead();
        x.writer(1);
        x.person(1, 10, 1, 0);
        Check.rule(x, "kin > 0");
        x.report(0, 0, 0);
        x.tell(0);
        for (int i = 0; i < 14; i++) {
            Check.paragraph(x, 0, 50 + i * 7 % 5, -1, "x".repeat(50 + i * 3 % 11));
        }
        for (int i = 0; i < 300; i++) {
            x.cut(0, 300 + i, false);
        }
        for (int i = 0; i < 80; i++) {
            x.edition(0, 300 + i, true);
        }
    }

    private static void weeks() {
        LivesAhead x = new LivesAhead();
        x.writer(30);
        for (int i = 0; i < 30; i++) {
            x.person(1, 1000 * i + 1, 1 + i * 37 % 100, 0);
            x.fact(i, 0, i, false);
            x.fact(i, 1, i, false);
        }
        x.keeps(0, 1);
        x.pass(10000);
        for (int i = 0; i < 400; i++) {
            x.week(0);
        }
    }

    private static void texts() {
        LivesAhead x = new LivesAhead();
        x.writer(30);
        x.person(1, 1, 1, 0);
        for (int i = 0; i < 24; i++) {
            Check.paragraph(x, 0, 1, -1, "{if not has k1:a|b}c".repeat(15));
        }
    }
}
