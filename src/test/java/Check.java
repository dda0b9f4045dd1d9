import java.util.NoSuchElementException;

/** What all tests share: telling texts to an object, and noting the answers that are not due. */
final class Check {
    private static int wrong = 0;
    private static int asked = 0;

    private Check() {
    }

    static void due(String what, long got, long want) {
        asked++;
        if (got != want) {
            wrong++;
            if (wrong <= 40) {
                System.out.println(what + " answered " + got + ", due is " + want);
            }
        }
    }

    static void due(String what, boolean got, boolean want) {
        due(what, got ? 1 : 0, want ? 1 : 0);
    }

    static boolean anyWrong() {
        return wrong > 0;
    }

    static void finish() {
        System.out.println(asked + " answers asked, " + wrong + " not as due");
        if (wrong != 0) {
            System.exit(1);
        }
    }

    static void tape(IceManners x, String text) {
        byte[] bytes = new byte[text.length()];
        for (int i = 0; i < bytes.length; i++) {
            bytes[i] = (byte) text.charAt(i);
        }
        tape(x, bytes);
    }

    static void tape(IceManners x, byte... bytes) {
        x.end(0);
        int[] five = new int[5];
        for (int from = 0; from < bytes.length; from += 20) {
            for (int i = 0; i < 5; i++) {
                five[i] = 0;
                for (int k = 0; k < 4; k++) {
                    int at = from + 4 * i + k;
                    five[i] = five[i] << 8 | (at < bytes.length ? bytes[at] & 255 : 0);
                }
            }
            x.feed(five[0], five[1], five[2], five[3], five[4]);
        }
        if (!x.end(bytes.length)) {
            throw new IllegalStateException("the test's text does not fit the tape");
        }
    }

    static int lake(IceManners x, String text) {
        tape(x, text);
        return x.lake();
    }

    static IceManners onLake(String text) {
        IceManners x = new IceManners();
        int lines = lake(x, text);
        if (lines < 0) {
            throw new IllegalStateException("the test's lake has a fault at " + (-1 - lines) + ": " + text);
        }
        return x;
    }

    static int book(IceManners x, String text, int lives) {
        tape(x, text);
        return x.book(lives);
    }

    static int sentence(IceManners x, String text) {
        tape(x, text);
        return x.sentence();
    }

    static int swore(IceManners x, int... bytes) {
        byte[] tape = new byte[bytes.length];
        for (int i = 0; i < tape.length; i++) {
            tape[i] = (byte) bytes[i];
        }
        tape(x, tape);
        return x.swore();
    }

    /** PERSONS of whom the SENTENCE may be said, as bits. */
    static int saidOf(IceManners x) {
        int bits = 0;
        for (int k = 0; k < x.said(-1); k++) {
            bits |= 1 << x.said(k);
        }
        return bits;
    }

    static String lineOf(IceManners x, int p) {
        int size = x.line(p);
        StringBuilder line = new StringBuilder();
        for (int i = 0; i < size; i++) {
            line.append((char) x.byteAt(i));
        }
        return line.toString();
    }

    static boolean personThrows(IceManners x, int p, int what) {
        try {
            x.person(p, what);
            return false;
        } catch (NoSuchElementException e) {
            return true;
        }
    }

    static boolean meanThrows(IceManners x, int what) {
        try {
            x.mean(what);
            return false;
        } catch (NoSuchElementException e) {
            return true;
        }
    }

    static String repeat(String part, int times) {
        StringBuilder all = new StringBuilder();
        for (int i = 0; i < times; i++) {
            all.append(part);
        }
        return all.toString();
    }

    /** All that can be seen of the LAKE and of what is so on it, as one text. */
    static String seen(IceManners x) {
        StringBuilder all = new StringBuilder();
        for (int what = 0; what < 8; what++) {
            all.append(x.count(what)).append(' ').append(x.now(what)).append(' ');
        }
        for (int y = 0; y < x.count(1); y++) {
            for (int c = 0; c < x.count(0); c++) {
                all.append(x.cell(c, y, 0)).append(',').append(x.cell(c, y, 1)).append(',').append(x.cell(c, y, 2)).append(' ');
            }
        }
        for (int p = 0; p < x.count(2); p++) {
            for (int what = 0; what < 8; what++) {
                all.append(x.person(p, what)).append(' ');
            }
        }
        return all.toString();
    }
}
