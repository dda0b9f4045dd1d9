import java.util.ArrayList;
import java.util.List;
import java.util.NoSuchElementException;
import java.util.Random;

/** All promises: random runs of calls, each answer compared with the plain model's. The seeds are fixed. */
public final class RandomTest {
    private static final int RUNS = 1200;
    private static final int CALLS = 512;
    private static final String[] NAMES = {"ann", "bob", "cid", "dot", "eve", "fay", "gus", "zz", "longest"};
    private static final String[] ANY = {"lake", "ice", "person", "rude", "cross", "hollow", "frost", "east", "south", "west",
        "north", "bows", "praises", "swears", "hour", "or", "and", "not", "fallen", "bowed", "by", "over", "temper", "load",
        "praised", "number", "ann", "bob", "nobody", "0", "1", "2", "7", "9", "10", "31", "61", "999", "1000", "0001", ";",
        "(", ")", "<", "=", ">", ".", "A", "\t", "\0", "a1", "1a", "eightsss", "\u00e9"};

    private final Random random;
    private final IceManners real = new IceManners();
    private final Model model = new Model();
    private final List<String> calls = new ArrayList<>();

    private RandomTest(int seed) {
        random = new Random(seed);
    }

    public static void main(String[] args) {
        for (int seed = 0; seed < RUNS && !Check.anyWrong(); seed++) {
            RandomTest run = new RandomTest(seed);
            run.run(seed);
        }
        Check.finish();
    }

    private void run(int seed) {
        while (calls.size() < CALLS && !Check.anyWrong()) {
            if (calls.isEmpty() || random.nextInt(60) == 0) {
                text(lakeText(), 0);
            }
            any(random.nextInt(40));
        }
        if (Check.anyWrong()) {
            System.out.println("seed " + seed + ", the last calls:");
            for (String call : calls.subList(Math.max(0, calls.size() - 30), calls.size())) {
                System.out.println("  " + call);
            }
        }
    }

    private void due(String call, int got, int want) {
        calls.add(call + " = " + got);
        Check.due(call, got, want);
    }

    private int near(int least, int most) {
        return least - 1 + random.nextInt(most - least + 3);
    }

    private int in(int least, int most) {
        return least + random.nextInt(most - least + 1);
    }

    /** Mostly a number as told, now and then one beside it. */
    private int num(int least, int most) {
        int kind = random.nextInt(40);
        return kind == 0 ? near(least, most) : kind == 1 ? random.nextInt() : in(least, most);
    }

    private int who() {
        return num(0, Math.max(0, real.count(2) - 1));
    }

    private void any(int kind) {
        int p = who();
        int q = who();
        int x = num(0, real.count(0) - 1);
        int y = num(0, real.count(1) - 1);
        int what = near(0, 8);
        int seed = random.nextInt();
        switch (kind) {
            case 0: case 1: case 2: case 3: case 4: {
                int side = num(0, 3);
                due("go " + p + " " + side, real.go(p, side), model.go(p, side));
                break;
            }
            case 5: case 6: due("bow " + p, real.bow(p), model.bow(p)); break;
            case 7: case 8: case 9: case 10: due("praise " + p + " " + q, real.praise(p, q), model.praise(p, q)); break;
            case 11: due("swear " + p, real.swear(p), model.swear(p)); break;
            case 12: {
                int n = random.nextInt(5) > 0 ? in(1, 3) : near(1, 60);
                due("hours " + n, real.hours(n), model.hours(n));
                break;
            }
            case 13: case 14: due("undo", real.undo(), model.undo()); break;
            case 15: case 16: case 17: way(p, x, y); break;
            case 18: due("bows " + p + " " + x + " " + y, real.bows(p, x, y), model.bows(p, x, y)); break;
            case 19: due("firm " + p + " " + x + " " + y, real.firm(p, x, y), model.firm(p, x, y)); break;
            case 20: due("swears " + p, real.swears(p), model.swears(p)); break;
            case 21: due("falls " + p, real.falls(p), model.falls(p)); break;
            case 22: due("fair", real.fair(), model.fair()); break;
            case 23: case 24: text(triples(), 3); due("ask", real.ask(), model.ask()); break;
            case 25: due("stands " + p, real.stands(p), model.stands(p)); break;
            case 26: mean(in(-1, 2)); break;
            case 27: line(p); break;
            case 28: {
                int n = random.nextInt(4) > 0 ? in(1, 4) : near(1, 60);
                due("drawn " + n + " " + seed, real.drawn(n, seed), model.drawn(n, seed));
                break;
            }
            case 29: {
                if (random.nextInt(8) == 0) {
                    int n = random.nextInt(3) > 0 ? in(1, 5) : near(1, 30);
                    due("odds " + p + " " + n + " " + seed, real.odds(p, n, seed), model.odds(p, n, seed));
                }
                break;
            }
            case 30: case 31: text(bookText(), 1); told(); break;
            case 32: case 33: text(sentenceText(), 2); break;
            case 34: said(); break;
            case 35: image(num(0, 1)); break;
            case 36: due("count " + what, real.count(what), model.count(what)); break;
            case 37: due("now " + what, real.now(what), model.now(what)); break;
            case 38: due("cell", real.cell(x, y, what % 4), model.cell(x, y, what % 4)); break;
            default: person(p, what);
        }
        seen();
    }

    private void seen() {
        if (random.nextInt(4) == 0) {
            for (int what = 0; what < 8; what++) {
                Check.due("now " + what, real.now(what), model.now(what));
                for (int p = 0; p < real.count(2); p++) {
                    Check.due("person " + p + " " + what, real.person(p, what), model.person(p, what));
                }
            }
            for (int c = 0; c < 64; c++) {
                Check.due("cell " + c, real.cell(c % 8, c / 8, 0), model.cell(c % 8, c / 8, 0));
            }
        }
    }

    private void person(int p, int what) {
        int got = -99;
        int want = -99;
        try {
            got = real.person(p, what);
        } catch (NoSuchElementException e) {
            got = -98;
        }
        try {
            want = model.person(p, what);
        } catch (NoSuchElementException e) {
            want = -98;
        }
        due("person " + p + " " + what, got, want);
    }

    private void mean(int what) {
        int got;
        int want;
        try {
            got = real.mean(what);
        } catch (NoSuchElementException e) {
            got = -98;
        }
        try {
            want = model.mean(what);
        } catch (NoSuchElementException e) {
            want = -98;
        }
        due("mean " + what, got, want);
    }

    private void way(int p, int x, int y) {
        due("way " + p + " " + x + " " + y, real.way(p, x, y), model.way(p, x, y));
        for (int k = -1; k < 16; k++) {
            Check.due("wayAt " + k, real.wayAt(k), model.wayAt(k));
        }
    }

    private void line(int p) {
        due("line " + p, real.line(p), model.line(p));
        for (int i = -1; i < 28; i++) {
            Check.due("byteAt " + i, real.byteAt(i), model.byteAt(i));
        }
    }

    private void told() {
        for (int what = -1; what < 5; what++) {
            Check.due("told " + what, real.told(what), model.told(what));
        }
    }

    private void said() {
        for (int k = -2; k < 7; k++) {
            Check.due("said " + k, real.said(k), model.said(k));
        }
    }

    private void image(int k) {
        if (random.nextInt(3) > 0) {
            due("image " + k, real.image(k) ? 1 : 0, model.image(k));
        } else {
            due("restore " + k, real.restore(k) ? 1 : 0, model.restore(k));
        }
    }

    private void text(String text, int kind) {
        due("end 0", real.end(0) ? 1 : 0, model.end(0));
        byte[] bytes = text.getBytes(java.nio.charset.StandardCharsets.ISO_8859_1);
        for (int from = 0; from < bytes.length; from += 20) {
            int[] n = new int[5];
            for (int k = 0; k < 20; k++) {
                n[k / 4] = n[k / 4] << 8 | (from + k < bytes.length ? bytes[from + k] & 255 : random.nextInt(256));
            }
            Check.due("feed", real.feed(n[0], n[1], n[2], n[3], n[4]), model.feed(n[0], n[1], n[2], n[3], n[4]));
        }
        due("end " + bytes.length, real.end(bytes.length) ? 1 : 0, model.end(bytes.length));
        if (kind == 0) {
            due("lake of '" + text + "'", real.lake(), model.lake());
        } else if (kind == 1) {
            int lives = in(0, 30);
            lives = lives == 30 ? 2 : lives % 2;
            due("book of '" + text + "' " + lives, real.book(lives), model.book(lives));
        } else if (kind == 2) {
            due("sentence of '" + text + "'", real.sentence(), model.sentence());
            said();
        } else {
            due("swore", real.swore(), model.swore());
        }
        due("fault", real.fault(), model.fault());
        due("tape", real.count(8), model.count(8));
    }

    private String pick(String... of) {
        return of[random.nextInt(of.length)];
    }

    /** Now and then a text is spoilt: a token is put in, left out or changed, a bound is overstepped, it is cut. */
    private String spoil(List<String> tokens, int most) {
        int spoilt = random.nextInt(5);
        if (spoilt == 0 && !tokens.isEmpty()) {
            int at = random.nextInt(tokens.size());
            int how = random.nextInt(3);
            if (how == 0) {
                tokens.add(at, pick(ANY));
            } else if (how == 1) {
                tokens.set(at, pick(ANY));
            } else {
                tokens.remove(at);
            }
        }
        StringBuilder text = new StringBuilder();
        for (String token : tokens) {
            boolean joins = text.length() > 0 && Character.isLetterOrDigit(text.charAt(text.length() - 1))
                && Character.isLetterOrDigit(token.charAt(0));
            if (joins ? random.nextInt(300) > 0 : random.nextInt(4) == 0) {
                text.append(pick(" ", " ", "\n", "  "));
            }
            text.append(token);
        }
        if (spoilt == 1 && random.nextInt(3) == 0 && text.length() > 0) {
            text.setLength(random.nextInt(text.length()));
        }
        if (random.nextInt(12) == 0) {
            int size = most - 2 + random.nextInt(6);
            int at = text.indexOf(" ");
            while (at >= 0 && text.length() < size) {
                text.insert(at, ' ');
            }
        }
        if (text.length() > 940) {
            text.setLength(940);
        }
        return text.toString();
    }

    private static void put(List<String> tokens, Object... parts) {
        for (Object part : parts) {
            tokens.add(part.toString());
        }
    }

    private String lakeText() {
        List<String> t = new ArrayList<>();
        int wide = 5;
        int high = 5;
        int thick = 5;
        if (random.nextInt(6) > 0) {
            wide = in(2, random.nextInt(3) == 0 ? 8 : 4);
            high = in(2, random.nextInt(3) == 0 ? 8 : 4);
            thick = in(random.nextInt(3) == 0 ? 0 : 3, 9);
            put(t, "lake", wide, high, thick, ";");
        }
        int[][] ice = new int[high][wide];
        for (int[] row : ice) {
            java.util.Arrays.fill(row, thick);
        }
        for (int y = 0; y < high; y++) {
            for (int x = 0; x < wide; x++) {
                if (random.nextInt(4) == 0) {
                    ice[y][x] = in(0, 9);
                    put(t, "ice", x, y, ice[y][x], ";");
                }
            }
        }
        if (random.nextInt(4) > 0) {
            put(t, "rude", in(1, random.nextInt(3) == 0 ? 9 : 2), in(0, 3), ";");
        }
        if (random.nextInt(4) > 0) {
            put(t, "cross", in(2, 9), ";");
        }
        int people = in(random.nextInt(4) == 0 ? 0 : 2, random.nextInt(12) == 0 ? 7 : 6);
        for (int p = 0; p < people; p++) {
            int x = in(0, wide - 1);
            int y = in(0, high - 1);
            int load = in(1, Math.max(1, Math.min(5, random.nextInt(3) == 0 ? 5 : ice[y][x])));
            ice[y][x] -= load;
            if (ice[y][x] >= 0 || random.nextInt(20) == 0) {
                put(t, "person", random.nextInt(60) == 0 ? pick(NAMES) : NAMES[p], x, y, load, in(0, 8), ";");
            }
        }
        if (random.nextInt(4) > 0) {
            put(t, "hollow", in(1, random.nextInt(3) == 0 ? 9 : 2), ";");
        }
        if (random.nextInt(4) > 0) {
            put(t, "frost", in(1, 30), ";");
        }
        return spoil(t, 900);
    }

    private String name() {
        return random.nextInt(60) == 0 ? pick(NAMES) : NAMES[random.nextInt(Math.max(1, real.count(2)))];
    }

    private String bookText() {
        List<String> t = new ArrayList<>();
        int lines = random.nextInt(8) == 0 ? in(38, 42) : in(0, 8);
        for (int k = 0; k < lines; k++) {
            int kind = random.nextInt(lines > 10 ? 3 : 8);
            if (kind < 2) {
                put(t, "hour", random.nextInt(6) == 0 ? in(1, 60) : in(1, 4), ";");
            } else if (kind < 5) {
                put(t, name(), pick("east", "south", "west", "north"), ";");
            } else if (kind == 5) {
                put(t, name(), "bows", ";");
            } else if (kind == 6) {
                put(t, name(), "praises", name(), ";");
            } else {
                put(t, name(), "swears", ";");
            }
        }
        return spoil(t, 400);
    }

    private String sentenceText() {
        List<String> t = new ArrayList<>();
        some(t, random.nextInt(6) == 0 ? 9 : 4, random.nextInt(6) == 0 ? 7 : 2);
        return spoil(t, 200);
    }

    private void some(List<String> t, int depth, int wide) {
        int parts = in(1, wide);
        for (int k = 0; k < parts; k++) {
            if (k > 0) {
                t.add(pick("or", "and"));
            }
            one(t, depth);
        }
    }

    private void one(List<String> t, int depth) {
        int kind = random.nextInt(depth > 0 ? 10 : 7);
        if (kind == 0) {
            t.add(pick("fallen", "bowed"));
        } else if (kind < 3) {
            put(t, pick("by", "over"), name());
        } else if (kind < 7) {
            put(t, pick("temper", "load", "ice", "praised", "number"), pick("<", "=", ">"), in(0, 5));
        } else if (kind < 9) {
            t.add("not");
            one(t, depth - 1);
        } else {
            t.add("(");
            some(t, depth - 1, 2);
            t.add(")");
        }
    }

    private String triples() {
        int n = random.nextInt(12) == 0 ? in(0, 7) : in(1, 2);
        StringBuilder text = new StringBuilder();
        int p = in(0, 5);
        for (int k = 0; k < n; k++) {
            int x = num(0, real.count(0) - 1) & 255;
            int y = num(0, real.count(1) - 1) & 255;
            int ice = real.cell(x, y, 0);
            boolean hit = p < real.count(2)
                && Math.abs(x - real.person(p, 0)) + Math.abs(y - real.person(p, 1)) <= real.count(4);
            int then = hit ? Math.max(0, ice - real.count(3)) : ice;
            text.append((char) x).append((char) y).append((char) (random.nextInt(10) == 0 ? num(0, 9) & 255 : then & 255));
        }
        if (random.nextInt(30) == 0) {
            text.append('\0');
        }
        return text.toString();
    }
}
