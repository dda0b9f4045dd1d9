import java.lang.management.ManagementFactory;

/** All calls of one run live in one room: the rows are made in the constructor, and calls make next to nothing. */
public final class RoomTest {
    private static final String LAKE = "lake 8 8 9;rude 1 3;cross 2;hollow 1;frost 1;person a 3 3 1 8;person b 3 3 1 8;"
        + "person c 3 4 1 8;person d 4 3 1 8;person e 4 4 1 8;person f 4 4 1 8;";

    private static final int OBJECT_BYTES = 40_000;
    private static final int RUN_BYTES = 120_000;

    public static void main(String[] args) {
        com.sun.management.ThreadMXBean room = (com.sun.management.ThreadMXBean) ManagementFactory.getThreadMXBean();
        byte[] lake = LAKE.getBytes(java.nio.charset.StandardCharsets.ISO_8859_1);
        byte[] book = "hour 60;hour 60;a bows;".getBytes(java.nio.charset.StandardCharsets.ISO_8859_1);
        byte[] sentence = "not(by a or over b and temper > 3)or fallen".getBytes(java.nio.charset.StandardCharsets.ISO_8859_1);
        IceManners warm = new IceManners();
        run(warm, lake, book, sentence);
        long id = Thread.currentThread().getId();
        long before = room.getThreadAllocatedBytes(id);
        IceManners x = new IceManners();
        long made = room.getThreadAllocatedBytes(id);
        run(x, lake, book, sentence);
        long after = room.getThreadAllocatedBytes(id);
        Check.due("an object takes " + (made - before) + " bytes: few", made - before <= OBJECT_BYTES, true);
        Check.due("a run takes " + (after - made) + " bytes: few", after - made <= RUN_BYTES, true);
        Check.finish();
    }

    private static void run(IceManners x, byte[] lake, byte[] book, byte[] sentence) {
        for (int k = 0; k < 8; k++) {
            Check.tape(x, lake);
            Check.due("lake", x.lake(), 11);
            Check.tape(x, sentence);
            Check.due("sentence", x.sentence(), 6);
            Check.due("image", x.image(k % 2), true);
            for (int p = 0; p < 6; p++) {
                x.odds(p, 30, 1);
                x.swears(p);
                x.falls(p);
                x.way(p, 7, 7);
                x.bows(p, 7, 7);
                x.firm(p, 7, 7);
                x.line(p);
                x.said(p);
                x.go(p, 0);
            }
            x.drawn(60, k);
            x.hours(60);
            Check.tape(x, book);
            x.book(1);
            x.undo();
            x.restore(k % 2);
        }
    }
}
