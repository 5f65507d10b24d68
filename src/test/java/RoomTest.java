import java.lang.management.ManagementFactory;

/** What a run of the dearest calls makes: all of it must find room, and no call may make things anew each time. */
public final class RoomTest {
    /** 7.3 million elements of 4 bytes, for far more calls than an object has. */
    private static final long NEW_OBJECT = 64 * 1024;
    private static final long ALL_CALLS = 64 * 1024;

    private static int wrong = 0;

    private static void due(String what, long got, long most) {
        if (got > most) {
            wrong++;
            System.out.println(what + " took " + got + " bytes, at most " + most + " are due");
        }
    }

    private static long taken() {
        return ((com.sun.management.ThreadMXBean) ManagementFactory.getThreadMXBean())
            .getThreadAllocatedBytes(Thread.currentThread().getId());
    }

    private static void text(OneVoice x, String text) {
        for (int i = 0; i < text.length(); i++) {
            x.write(text.charAt(i), 1);
        }
    }

    public static void main(String[] args) {
        new OneVoice().said(0, 0, 1, 0);
        taken();
        long start = taken();
        OneVoice x = new OneVoice();
        due("a new object", taken() - start, NEW_OBJECT);
        start = taken();
        for (int i = 0; i < 20; i++) {
            x.piece(0, 8, i, 99 - i, 0);
        }
        text(x, "word 28 is aaaaaaaa;word 9 is aaaaaaaa;word 27 is aaaaaaaa;line 0 is ########");
        x.told();
        for (int i = 0; i < 30; i++) {
            x.call(i % 6, 0, 99, 0, 3000, i % 2 == 0);
        }
        for (int i = 0; i < 20; i++) {
            x.run(100);
        }
        for (int i = 0; i < 80; i++) {
            x.said(0, 0, 16, 1);
            x.bit(0, 0, 16, 15);
            x.jar(0, 99, 0);
            x.record();
            x.fault();
        }
        due("all calls", taken() - start, ALL_CALLS);
        System.out.println(wrong == 0 ? "all calls find room" : wrong + " takes are too large");
        if (wrong != 0) {
            System.exit(1);
        }
    }
}
