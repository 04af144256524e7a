import java.lang.management.ManagementFactory;

/** All calls of a run live in one room: however often the dearest calls are made, they make next to nothing. */
public final class RoomTest {
    private static final int CALLS = 256;
    private static final Check check = new Check();

    private interface Call {
        long on(SideBySide x);
    }

    public static void main(String[] args) {
        room("court", x -> x.court(7));
        room("fewest", x -> x.fewest(0));
        room("atWhom", x -> x.atWhom(0));
        room("bestHabit", x -> x.bestHabit(0, 0));
        room("rally", x -> x.rally(0, 0));
        room("two", x -> x.two());
        room("draughts", x -> x.draughts(5, 20, 0));
        room("judge", x -> x.judge(0));
        room("nights", x -> x.nights(20, 1, 0));
        room("image", x -> x.image());
        room("row", x -> x.row(1, 2, 100));
        room("keep", x -> x.keep(1, 1, 4, 4));
        room("toss", x -> x.toss(2));
        check.end();
    }

    private static SideBySide court() {
        SideBySide x = Check.of("b00;b30;b30;b30;b30;b30;b30;b30;p004;p174;p204;p374;");
        Check.row(x, 0, Check.BYTES, new int[100]);
        x.keep(2, 1, 4, 4);
        Check.text(x, 7, "d1;".repeat(20) + "x00;x08;");
        return x;
    }

    /** 1 KiB a call: 512 of them are far below what a room of 7.3 million fields and 600,000 objects holds. */
    private static void room(String name, Call call) {
        SideBySide x = court();
        call.on(x);
        com.sun.management.ThreadMXBean thread =
            (com.sun.management.ThreadMXBean) ManagementFactory.getThreadMXBean();
        long id = Thread.currentThread().getId();
        long ahead = thread.getThreadAllocatedBytes(id);
        for (int i = 0; i < CALLS; i++) {
            call.on(x);
        }
        long made = thread.getThreadAllocatedBytes(id) - ahead;
        check.dueTrue(name + " made " + made + " bytes in " + CALLS + " calls", made < CALLS * 1024);
    }
}
