/** Promises 1, 2, 3 and 36: a new object, feed, end, count. */
public final class TapeTest {
    public static void main(String[] args) {
        newObject();
        feeding();
        ending();
        counting();
        Check.finish();
    }

    private static void newObject() {
        IceManners x = new IceManners();
        int[] counts = {5, 5, 0, 2, 1, 5, 3, 6, 0};
        for (int what = 0; what < counts.length; what++) {
            Check.due("new: count(" + what + ")", x.count(what), counts[what]);
        }
        for (int y = 0; y < 5; y++) {
            for (int c = 0; c < 5; c++) {
                Check.due("new: cell", x.cell(c, y, 0), 5);
            }
        }
        int[] nows = {0, 0, 0, 125, 0, 0, 0, 0};
        for (int what = 0; what < nows.length; what++) {
            Check.due("new: now(" + what + ")", x.now(what), nows[what]);
        }
        Check.due("new: fault", x.fault(), 0);
        Check.due("new: said", x.said(-1), -1);
        Check.due("new: undo", x.undo(), -1);
        Check.due("new: told", x.told(0), -1);
        Check.due("new: person", Check.personThrows(x, 0, 0), true);
    }

    private static void feeding() {
        IceManners x = new IceManners();
        Check.due("feed", x.feed(0x6c616b65, 0x20342033, 0x20353b00, 0, 0), 20);
        Check.due("end", x.end(11), true);
        Check.due("lake", x.lake(), 1);
        Check.due("the highest byte comes first", x.count(0) * 10 + x.count(1), 43);
        for (int k = 1; k <= 47; k++) {
            Check.due("feed " + k, x.feed(-1, -1, -1, -1, -1), 20 * k);
        }
        Check.due("feed beyond 940", x.feed(0, 0, 0, 0, 0), -1);
        Check.due("none came", x.count(8), 940);
        x.end(921);
        Check.due("feed to 941", x.feed(0, 0, 0, 0, 0), -1);
        Check.due("none came", x.count(8), 921);
        x.end(920);
        Check.due("feed to 940", x.feed(0, 0, 0, 0, 0), 940);
    }

    private static void ending() {
        IceManners x = new IceManners();
        Check.due("end(0) of an empty tape", x.end(0), true);
        Check.due("end(1) of an empty tape", x.end(1), false);
        x.feed(1, 2, 3, 4, 5);
        Check.due("end(-1)", x.end(-1), false);
        Check.due("end(21)", x.end(21), false);
        Check.due("end(min)", x.end(Integer.MIN_VALUE), false);
        Check.due("end(max)", x.end(Integer.MAX_VALUE), false);
        Check.due("the tape stays", x.count(8), 20);
        Check.due("end(20)", x.end(20), true);
        Check.due("end(7)", x.end(7), true);
        Check.due("end(8)", x.end(8), false);
        Check.due("count(8)", x.count(8), 7);
        Check.due("feed goes behind it", x.feed(0, 0, 0, 0, 0), 27);
    }

    private static void counting() {
        IceManners x = Check.onLake("rude 9 3;cross 9;hollow 8;frost 30;lake 8 2 0;ice 7 1 9;person a 7 1 1 0;person b 7 1 1 0;");
        int[] counts = {8, 2, 2, 9, 3, 9, 8, 30, 0};
        for (int what = 0; what < counts.length; what++) {
            Check.due("count(" + what + ")", x.count(what), counts[what]);
        }
        Check.due("count(9)", x.count(9), -1);
        Check.due("count(-1)", x.count(-1), -1);
        Check.due("count(min)", x.count(Integer.MIN_VALUE), -1);
    }
}
