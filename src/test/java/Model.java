import java.util.ArrayDeque;
import java.util.ArrayList;
import java.util.Arrays;
import java.util.HashMap;
import java.util.List;
import java.util.Map;
import java.util.NoSuchElementException;
import java.util.Set;
import java.util.TreeMap;
import java.util.regex.Matcher;
import java.util.regex.Pattern;

/** The document once more, in another and slower way, for RandomTest to compare with. */
final class Model {
    private static final Set<String> FIXED = Set.of("lake", "ice", "person", "rude", "cross", "hollow", "frost", "east",
        "south", "west", "north", "bows", "praises", "swears", "hour", "or", "and", "not", "fallen", "bowed", "by",
        "over", "temper", "load", "praised", "number");
    private static final List<String> SIDES = List.of("east", "south", "west", "north");

    interface Saying {
        boolean of(World w, int p);
    }

    static final class Person {
        String name;
        int x, y, load, temper, praised;
        boolean fallen, bowed;

        Person copy() {
            Person c = new Person();
            c.name = name;
            c.x = x;
            c.y = y;
            c.load = load;
            c.temper = temper;
            c.praised = praised;
            c.fallen = fallen;
            c.bowed = bowed;
            return c;
        }

        int far(Person o) {
            return Math.abs(x - o.x) + Math.abs(y - o.y);
        }
    }

    static final class World {
        int wide = 5, high = 5, rude = 2, reach = 1, cross = 5, hollow = 3, frost = 6, hour, bows, praises, oaths;
        int[][] ice = new int[5][5];
        List<Person> all = new ArrayList<>();
        Saying saying;
        int lastSwearer = -1;
        Set<Integer> swearers = new java.util.HashSet<>();

        World() {
            fill(5);
        }

        void fill(int n) {
            ice = new int[high][wide];
            for (int[] row : ice) {
                Arrays.fill(row, n);
            }
        }

        World copy() {
            World w = new World();
            w.wide = wide;
            w.high = high;
            w.rude = rude;
            w.reach = reach;
            w.cross = cross;
            w.hollow = hollow;
            w.frost = frost;
            w.hour = hour;
            w.bows = bows;
            w.praises = praises;
            w.oaths = oaths;
            w.saying = saying;
            w.ice = new int[high][];
            for (int y = 0; y < high; y++) {
                w.ice[y] = ice[y].clone();
            }
            for (Person p : all) {
                w.all.add(p.copy());
            }
            return w;
        }

        boolean cell(int x, int y) {
            return x >= 0 && y >= 0 && x < wide && y < high;
        }

        boolean has(int p) {
            return p >= 0 && p < all.size();
        }

        int loads(int x, int y) {
            return all.stream().filter(p -> !p.fallen && p.x == x && p.y == y).mapToInt(p -> p.load).sum();
        }

        void sink() {
            for (int y = 0; y < high; y++) {
                for (int x = 0; x < wide; x++) {
                    if (loads(x, y) > ice[y][x]) {
                        for (Person p : all) {
                            if (p.x == x && p.y == y) {
                                p.fallen = true;
                            }
                        }
                    }
                }
            }
        }

        int go(int k, int side) {
            Person p = all.get(k);
            if (p.fallen) {
                return 1;
            }
            int x = p.x + (side == 0 ? 1 : side == 2 ? -1 : 0);
            int y = p.y + (side == 1 ? 1 : side == 3 ? -1 : 0);
            if (!cell(x, y)) {
                return 2;
            }
            if (loads(x, y) + p.load > ice[y][x]) {
                return 3;
            }
            p.x = x;
            p.y = y;
            return 0;
        }

        int bow(int k) {
            Person p = all.get(k);
            if (p.fallen) {
                return 1;
            }
            if (p.bowed) {
                return 2;
            }
            p.bowed = true;
            bows++;
            if (ice[p.y][p.x] < 9) {
                ice[p.y][p.x]++;
            }
            if (p.temper > 0) {
                p.temper--;
            }
            return 0;
        }

        int praise(int k, int l) {
            Person p = all.get(k);
            Person q = all.get(l);
            if (k == l) {
                return 1;
            }
            if (p.fallen || q.fallen) {
                return 2;
            }
            if (p.far(q) > 1) {
                return 3;
            }
            praises++;
            q.praised++;
            if (q.temper > 0) {
                q.temper--;
            }
            if (q.praised > hollow && ice[q.y][q.x] > 0) {
                ice[q.y][q.x]--;
                sink();
            }
            return 0;
        }

        int swear(int k) {
            Person p = all.get(k);
            if (p.fallen) {
                return 1;
            }
            oaths++;
            swearers.add(k);
            for (int y = 0; y < high; y++) {
                for (int x = 0; x < wide; x++) {
                    if (Math.abs(x - p.x) + Math.abs(y - p.y) <= reach) {
                        ice[y][x] = Math.max(0, ice[y][x] - rude);
                    }
                }
            }
            p.temper = 0;
            sink();
            return 0;
        }

        void hour() {
            for (int k = 0; k < all.size(); k++) {
                Person p = all.get(k);
                if (p.fallen) {
                    continue;
                }
                for (Person o : all) {
                    if (o != p && !o.fallen && p.far(o) <= 1 && p.temper < 9) {
                        p.temper++;
                    }
                }
                if (p.temper >= cross) {
                    swear(k);
                }
            }
            hour++;
            if (hour % frost == 0) {
                for (int[] row : ice) {
                    for (int x = 0; x < wide; x++) {
                        row[x] = Math.min(9, row[x] + 1);
                    }
                }
            }
            for (Person p : all) {
                p.bowed = false;
                p.praised = 0;
            }
        }

        int hours(int n) {
            int went = 0;
            while (went < n && hour < 400) {
                hour();
                went++;
            }
            return went;
        }

        int drawn(int n, int seed) {
            int[] s = {seed};
            int went = 0;
            while (went < n && hour < 400) {
                for (int k = 0; k < all.size(); k++) {
                    int act = draw(s, 8);
                    if (act < 4) {
                        go(k, act);
                    } else if (act == 4) {
                        bow(k);
                    } else if (act == 5) {
                        praise(k, draw(s, all.size()));
                    } else if (act == 6) {
                        if (draw(s, 4) == 0) {
                            swear(k);
                        }
                    }
                }
                hour();
                went++;
            }
            return went;
        }

        static int draw(int[] s, int n) {
            s[0] = s[0] * 1103515245 + 12345;
            return (s[0] >>> 8) % n;
        }

        int bits(java.util.function.Predicate<Person> which) {
            int bits = 0;
            for (int k = 0; k < all.size(); k++) {
                bits |= which.test(all.get(k)) ? 1 << k : 0;
            }
            return bits;
        }

        int danger(int k) {
            if (all.get(k).fallen) {
                return 0;
            }
            World w = copy();
            w.swear(k);
            return w.bits(p -> p.fallen) & ~bits(p -> p.fallen);
        }
    }

    static final class Fault extends RuntimeException {
        private static final long serialVersionUID = 1;
        final int kind, place;

        Fault(int kind, int place) {
            super(null, null, false, false);
            this.kind = kind;
            this.place = place;
        }
    }

    /** The TOKENS of a text and how far they are read. */
    static final class Tokens {
        private static final Pattern RUN = Pattern.compile("[a-z0-9]+|[^ \n]", Pattern.DOTALL);
        final List<String> texts = new ArrayList<>();
        final List<Integer> places = new ArrayList<>();
        int k;

        Tokens(String text, int most) {
            Matcher m = RUN.matcher(text);
            while (m.find() && m.start() < most) {
                texts.add(m.group());
                places.add(m.start());
            }
            if (text.length() > most) {
                texts.add("too long");
                places.add(most);
            } else {
                texts.add("");
                places.add(text.length());
            }
        }

        String text() {
            return texts.get(k);
        }

        Fault fault(int kind) {
            return new Fault(kind, places.get(k));
        }

        void sign(String s) {
            if (!text().equals(s)) {
                throw fault(1);
            }
            k++;
        }

        int number(int least, int most) {
            if (!text().matches("[0-9]{1,3}")) {
                throw fault(1);
            }
            int n = Integer.parseInt(text());
            if (n < least || n > most) {
                throw fault(2);
            }
            k++;
            return n;
        }

        String name() {
            if (!text().matches("[a-z]{1,7}") || FIXED.contains(text())) {
                throw fault(1);
            }
            return texts.get(k++);
        }

        int person(World w) {
            String name = name();
            for (int p = 0; p < w.all.size(); p++) {
                if (w.all.get(p).name.equals(name)) {
                    return p;
                }
            }
            k--;
            throw fault(3);
        }
    }

    private byte[] tape = new byte[0];
    private World world = new World();
    private final ArrayDeque<World> past = new ArrayDeque<>();
    private final World[] images = new World[2];
    private int fault;
    private String way = "";
    private String line = "";
    private int[] told;
    private int ask = -1;
    private int ones;

    private String takeTape() {
        String text = new String(tape, java.nio.charset.StandardCharsets.ISO_8859_1);
        tape = new byte[0];
        return text;
    }

    int feed(int a, int b, int c, int d, int e) {
        if (tape.length > 920) {
            return -1;
        }
        java.nio.ByteBuffer buffer = java.nio.ByteBuffer.allocate(tape.length + 20);
        buffer.put(tape).putInt(a).putInt(b).putInt(c).putInt(d).putInt(e);
        tape = buffer.array();
        return tape.length;
    }

    int end(int n) {
        if (n < 0 || n > tape.length) {
            return 0;
        }
        tape = Arrays.copyOf(tape, n);
        return 1;
    }

    int lake() {
        try {
            fault = 0;
            World w = new World();
            int lines = readLake(new Tokens(takeTape(), 900), w);
            world = w;
            past.clear();
            return lines;
        } catch (Fault f) {
            fault = f.kind;
            return -1 - f.place;
        }
    }

    private static int readLake(Tokens t, World w) {
        int lines = 0;
        Set<String> told = new java.util.HashSet<>();
        Set<Integer> iced = new java.util.HashSet<>();
        while (!t.text().equals("")) {
            String word = t.text();
            if (!List.of("lake", "ice", "person", "rude", "cross", "hollow", "frost").contains(word)) {
                throw t.fault(1);
            }
            boolean once = !word.equals("ice") && !word.equals("person");
            if (once && told.contains(word) || word.equals("lake") && (told.contains("ice") || told.contains("person"))
                || word.equals("ice") && told.contains("person")) {
                throw t.fault(3);
            }
            if (word.equals("person") && w.all.size() == 6) {
                throw t.fault(4);
            }
            told.add(word);
            t.k++;
            if (word.equals("lake")) {
                w.wide = t.number(2, 8);
                w.high = t.number(2, 8);
                w.fill(t.number(0, 9));
            } else if (word.equals("ice")) {
                int x = t.number(0, w.wide - 1);
                int y = t.number(0, w.high - 1);
                if (!iced.add(100 * x + y)) {
                    t.k--;
                    throw t.fault(3);
                }
                w.ice[y][x] = t.number(0, 9);
            } else if (word.equals("person")) {
                Person p = new Person();
                p.name = t.name();
                for (Person o : w.all) {
                    if (o.name.equals(p.name)) {
                        t.k--;
                        throw t.fault(3);
                    }
                }
                p.x = t.number(0, w.wide - 1);
                p.y = t.number(0, w.high - 1);
                p.load = t.number(1, 5);
                if (w.loads(p.x, p.y) + p.load > w.ice[p.y][p.x]) {
                    t.k--;
                    throw t.fault(3);
                }
                p.temper = t.number(0, 8);
                w.all.add(p);
            } else if (word.equals("rude")) {
                w.rude = t.number(1, 9);
                w.reach = t.number(0, 3);
            } else if (word.equals("cross")) {
                w.cross = t.number(2, 9);
            } else if (word.equals("hollow")) {
                w.hollow = t.number(1, 9);
            } else {
                w.frost = t.number(1, 30);
            }
            t.sign(";");
            lines++;
        }
        return lines;
    }

    int fault() {
        return fault;
    }

    int person(int p, int what) {
        if (!world.has(p) || what < 0 || what > 7) {
            throw new NoSuchElementException();
        }
        Person one = world.all.get(p);
        int sides = 0;
        for (int s = 0; s < 4; s++) {
            sides |= world.copy().go(p, s) == 0 ? 1 << s : 0;
        }
        return new int[] {one.x, one.y, one.load, one.temper, one.fallen ? 1 : 0, one.praised, sides, world.danger(p)}[what];
    }

    int cell(int x, int y, int what) {
        if (!world.cell(x, y) || what < 0 || what > 2) {
            return -1;
        }
        return new int[] {world.ice[y][x], world.loads(x, y), world.bits(p -> !p.fallen && p.x == x && p.y == y)}[what];
    }

    private int allIce() {
        return Arrays.stream(world.ice).mapToInt(row -> Arrays.stream(row).sum()).sum();
    }

    int now(int what) {
        if (what < 0 || what > 7) {
            return -1;
        }
        int bare = 0;
        for (int[] row : world.ice) {
            for (int n : row) {
                bare += n == 0 ? 1 : 0;
            }
        }
        return new int[] {world.hour, world.bits(p -> p.fallen), world.bits(p -> p.bowed), allIce(), bare, world.bows,
            world.praises, world.oaths}[what];
    }

    private int keep(World before, boolean done, int answer) {
        if (done) {
            past.push(before);
            if (past.size() > 8) {
                past.removeLast();
            }
        }
        return answer;
    }

    int go(int p, int side) {
        if (!world.has(p) || side < 0 || side > 3) {
            return -1;
        }
        World before = world.copy();
        int why = world.go(p, side);
        return keep(before, why == 0, why);
    }

    int bow(int p) {
        if (!world.has(p)) {
            return -1;
        }
        World before = world.copy();
        int why = world.bow(p);
        return keep(before, why == 0, why);
    }

    int praise(int p, int q) {
        if (!world.has(p) || !world.has(q)) {
            return -1;
        }
        World before = world.copy();
        int why = world.praise(p, q);
        return keep(before, why == 0, why);
    }

    int swear(int p) {
        if (!world.has(p)) {
            return -1;
        }
        World before = world.copy();
        int why = world.swear(p);
        return keep(before, why == 0, why);
    }

    int hours(int n) {
        if (n < 1 || n > 60) {
            return -1;
        }
        World before = world.copy();
        int went = world.hours(n);
        return keep(before, went > 0, went);
    }

    int drawn(int n, int seed) {
        if (n < 1 || n > 60) {
            return -1;
        }
        World before = world.copy();
        int went = world.drawn(n, seed);
        return keep(before, went > 0, went);
    }

    int undo() {
        if (past.isEmpty()) {
            return -1;
        }
        Saying saying = world.saying;
        world = past.pop();
        world.saying = saying;
        return past.size();
    }

    private boolean canNot(int p, int x, int y) {
        return !world.has(p) || !world.cell(x, y) || world.all.get(p).fallen;
    }

    private int steps(int p, int x, int y, Map<Integer, String> reached) {
        World w = world.copy();
        Person one = w.all.get(p);
        Map<Integer, String> layer = new TreeMap<>();
        layer.put(10 * one.y + one.x, "");
        while (!layer.isEmpty()) {
            reached.putAll(layer);
            Map<Integer, String> next = new TreeMap<>();
            for (Map.Entry<Integer, String> e : layer.entrySet()) {
                for (int s = 0; s < 4; s++) {
                    one.x = e.getKey() % 10;
                    one.y = e.getKey() / 10;
                    if (w.go(p, s) == 0 && !reached.containsKey(10 * one.y + one.x)) {
                        String path = e.getValue() + s;
                        next.merge(10 * one.y + one.x, path, (a, b) -> a.compareTo(b) <= 0 ? a : b);
                    }
                }
            }
            layer = next;
        }
        String path = reached.get(10 * y + x);
        return path == null ? -1 : path.length();
    }

    int way(int p, int x, int y) {
        if (canNot(p, x, y)) {
            return -1;
        }
        Map<Integer, String> reached = new HashMap<>();
        int n = steps(p, x, y, reached);
        if (n >= 0) {
            way = reached.get(10 * y + x);
        }
        return n;
    }

    int wayAt(int k) {
        return k >= 0 && k < way.length() ? way.charAt(k) - '0' : -1;
    }

    int bows(int p, int x, int y) {
        if (canNot(p, x, y)) {
            return -1;
        }
        World w = world.copy();
        Person one = w.all.remove(p);
        int[][] cost = new int[w.high][w.wide];
        for (int[] row : cost) {
            Arrays.fill(row, 9999);
        }
        cost[one.y][one.x] = 0;
        java.util.PriorityQueue<int[]> open = new java.util.PriorityQueue<>((a, b) -> a[0] - b[0]);
        open.add(new int[] {0, one.x, one.y});
        while (!open.isEmpty()) {
            int[] c = open.poll();
            for (int[] d : new int[][] {{1, 0}, {0, 1}, {-1, 0}, {0, -1}}) {
                int nx = c[1] + d[0];
                int ny = c[2] + d[1];
                if (w.cell(nx, ny) && w.loads(nx, ny) + one.load <= 9) {
                    int total = c[0] + Math.max(0, w.loads(nx, ny) + one.load - w.ice[ny][nx]);
                    if (total < cost[ny][nx]) {
                        cost[ny][nx] = total;
                        open.add(new int[] {total, nx, ny});
                    }
                }
            }
        }
        return cost[y][x] == 9999 ? -1 : cost[y][x];
    }

    int firm(int p, int x, int y) {
        if (canNot(p, x, y)) {
            return -1;
        }
        Person one = world.all.get(p);
        if (one.x == x && one.y == y) {
            return world.ice[y][x];
        }
        World real = world;
        try {
            for (int least = 9; least >= 0; least--) {
                world = real.copy();
                for (int[] row : world.ice) {
                    for (int c = 0; c < row.length; c++) {
                        row[c] = row[c] < least ? 0 : row[c];
                    }
                }
                if (steps(p, x, y, new HashMap<>()) >= 0) {
                    return least;
                }
            }
            return -1;
        } finally {
            world = real;
        }
    }

    int swears(int p) {
        if (!world.has(p)) {
            return -1;
        }
        World w = world.copy();
        for (int k = 1; k <= 99 && w.hour < 400; k++) {
            w.hour();
            if (w.swearers.contains(p)) {
                return k;
            }
        }
        return -1;
    }

    int falls(int p) {
        if (!world.has(p)) {
            return -1;
        }
        World w = world.copy();
        for (int k = 0; k <= 99; k++) {
            if (w.all.get(p).fallen) {
                return k;
            }
            if (w.hours(1) == 0) {
                return -1;
            }
        }
        return -1;
    }

    int fair() {
        int best = -1;
        int least = Integer.MAX_VALUE;
        int load = world.all.stream().filter(p -> !p.fallen).mapToInt(p -> p.load).sum();
        for (int y = 0; y < world.high; y++) {
            for (int x = 0; x < world.wide; x++) {
                int cx = x;
                int cy = y;
                int far = world.all.stream().filter(p -> !p.fallen)
                    .mapToInt(p -> Math.abs(p.x - cx) + Math.abs(p.y - cy)).sum();
                if (world.ice[y][x] >= load && far < least) {
                    least = far;
                    best = 8 * y + x;
                }
            }
        }
        return best;
    }

    int swore() {
        byte[] t = tape;
        tape = new byte[0];
        if (t.length == 0 || t.length > 18 || t.length % 3 != 0) {
            return -1;
        }
        for (int i = 0; i < t.length; i += 3) {
            if (!world.cell(t[i] & 255, t[i + 1] & 255)) {
                return -1;
            }
        }
        List<World> after = new ArrayList<>();
        int bits = 0;
        for (int p = 0; p < world.all.size(); p++) {
            World w = world.copy();
            boolean fits = w.swear(p) == 0;
            for (int i = 0; i < t.length; i += 3) {
                fits &= w.ice[t[i + 1]][t[i]] == (t[i + 2] & 255);
            }
            if (fits) {
                bits |= 1 << p;
                after.add(w);
            }
        }
        if (bits > 0) {
            long least = 99;
            for (int y = 0; y < world.high; y++) {
                for (int x = 0; x < world.wide; x++) {
                    int[] tally = new int[10];
                    for (World w : after) {
                        tally[w.ice[y][x]]++;
                    }
                    int most = Arrays.stream(tally).max().getAsInt();
                    if (most < least) {
                        least = most;
                        ask = 8 * y + x;
                    }
                }
            }
        }
        return bits;
    }

    int ask() {
        return ask;
    }

    int stands(int p) {
        if (!world.has(p) || world.all.get(p).fallen) {
            return -1;
        }
        World w = world.copy();
        Person praiser = w.all.get(p).copy();
        praiser.load = 0;
        w.all.add(praiser);
        for (int k = 0;; k++) {
            w.praise(w.all.size() - 1, p);
            if (w.all.get(p).fallen) {
                return k;
            }
        }
    }

    int mean(int what) {
        if (what != 0 && what != 1) {
            throw new NoSuchElementException();
        }
        int above = allIce();
        int below = world.wide * world.high;
        for (int d = below; d > 1; d--) {
            if (above % d == 0 && below % d == 0) {
                above /= d;
                below /= d;
            }
        }
        return what == 0 ? above : below;
    }

    int line(int p) {
        if (!world.has(p)) {
            return -1;
        }
        Person one = world.all.get(p);
        line = one.name + (one.fallen ? " fell" : " at " + one.x + " " + one.y + " on " + world.ice[one.y][one.x])
            + (one.bowed ? " bowed" : "");
        return line.length();
    }

    int byteAt(int i) {
        return i >= 0 && i < line.length() ? line.charAt(i) : -1;
    }

    int odds(int p, int n, int seed) {
        if (!world.has(p) || n < 1 || n > 30) {
            return -1;
        }
        int safe = 0;
        for (int k = 0; k < n; k++) {
            World w = world.copy();
            w.drawn(20, seed + k);
            safe += w.all.get(p).fallen ? 0 : 1;
        }
        return safe;
    }

    int book(int lives) {
        if (lives != 0 && lives != 1) {
            return -1000;
        }
        List<int[]> lines = new ArrayList<>();
        try {
            fault = 0;
            readBook(new Tokens(takeTape(), 400), lines);
        } catch (Fault f) {
            fault = f.kind;
            return -2 - f.place;
        }
        World w = world.copy();
        int why = 0;
        int right = 0;
        for (int[] l : lines) {
            int act = l[0];
            if (act == 4) {
                why = w.hour + l[1] > 400 ? 41 : 0;
                if (why == 0) {
                    w.hours(l[1]);
                }
            } else {
                int r = act == 0 ? w.go(l[1], l[2]) : act == 1 ? w.bow(l[1]) : act == 2 ? w.praise(l[1], l[2]) : w.swear(l[1]);
                why = r == 0 ? 0 : 10 * act + r;
            }
            if (why != 0) {
                break;
            }
            right++;
        }
        told = new int[] {why, right, w.hour, w.bits(p -> p.fallen)};
        if (lives == 1) {
            World before = world;
            world = w;
            keep(before, right > 0, 0);
        }
        return why == 0 ? -1 : right;
    }

    private void readBook(Tokens t, List<int[]> lines) {
        while (!t.text().equals("")) {
            boolean hour = t.text().equals("hour");
            int doer = -1;
            if (hour) {
                t.k++;
            } else {
                doer = t.person(world);
            }
            if (lines.size() == 40) {
                t.k--;
                throw t.fault(4);
            }
            if (hour) {
                lines.add(new int[] {4, t.number(1, 60)});
            } else if (SIDES.contains(t.text())) {
                lines.add(new int[] {0, doer, SIDES.indexOf(t.texts.get(t.k++))});
            } else if (t.text().equals("bows")) {
                t.k++;
                lines.add(new int[] {1, doer});
            } else if (t.text().equals("praises")) {
                t.k++;
                lines.add(new int[] {2, doer, t.person(world)});
            } else {
                t.sign("swears");
                lines.add(new int[] {3, doer});
            }
            t.sign(";");
        }
    }

    int told(int what) {
        return told == null || what < 0 || what > 3 ? -1 : told[what];
    }

    int sentence() {
        try {
            fault = 0;
            ones = 0;
            Tokens t = new Tokens(takeTape(), 200);
            Saying s = some(t, 1);
            t.sign("");
            world.saying = s;
            return ones;
        } catch (Fault f) {
            fault = f.kind;
            return -1 - f.place;
        }
    }

    private Saying some(Tokens t, int depth) {
        Saying first = every(t, depth);
        if (!t.text().equals("or")) {
            return first;
        }
        t.k++;
        Saying rest = some(t, depth);
        return (w, p) -> first.of(w, p) || rest.of(w, p);
    }

    private Saying every(Tokens t, int depth) {
        Saying first = one(t, depth);
        if (!t.text().equals("and")) {
            return first;
        }
        t.k++;
        Saying rest = every(t, depth);
        return (w, p) -> first.of(w, p) && rest.of(w, p);
    }

    private Saying one(Tokens t, int depth) {
        String word = t.text();
        if (!List.of("not", "(", "fallen", "bowed", "by", "over", "temper", "load", "ice", "praised", "number").contains(word)) {
            throw t.fault(1);
        }
        if (depth == 9 || ones == 20) {
            throw t.fault(4);
        }
        ones++;
        t.k++;
        if (word.equals("not")) {
            Saying inner = one(t, depth + 1);
            return (w, p) -> !inner.of(w, p);
        }
        if (word.equals("(")) {
            Saying inner = some(t, depth + 1);
            t.sign(")");
            return inner;
        }
        if (word.equals("fallen")) {
            return (w, p) -> w.all.get(p).fallen;
        }
        if (word.equals("bowed")) {
            return (w, p) -> w.all.get(p).bowed;
        }
        if (word.equals("by")) {
            int q = t.person(world);
            return (w, p) -> w.all.get(p).far(w.all.get(q)) <= 1;
        }
        if (word.equals("over")) {
            int q = t.person(world);
            return (w, p) -> (w.danger(p) & 1 << q) != 0;
        }
        String sign = t.text();
        if (!sign.matches("[<=>]")) {
            throw t.fault(1);
        }
        t.k++;
        int n = t.number(0, 999);
        return (w, p) -> {
            Person o = w.all.get(p);
            int v = word.equals("temper") ? o.temper : word.equals("load") ? o.load : word.equals("ice") ? w.ice[o.y][o.x]
                : word.equals("praised") ? o.praised : p;
            return sign.equals("<") ? v < n : sign.equals("=") ? v == n : v > n;
        };
    }

    int said(int k) {
        if (world.saying == null) {
            return -1;
        }
        List<Integer> who = new ArrayList<>();
        for (int p = 0; p < world.all.size(); p++) {
            if (world.saying.of(world, p)) {
                who.add(p);
            }
        }
        return k == -1 ? who.size() : k >= 0 && k < who.size() ? who.get(k) : -1;
    }

    int image(int k) {
        if (k != 0 && k != 1) {
            return 0;
        }
        images[k] = world.copy();
        return 1;
    }

    int restore(int k) {
        if (k != 0 && k != 1 || images[k] == null) {
            return 0;
        }
        world = images[k].copy();
        past.clear();
        return 1;
    }

    int count(int what) {
        if (what < 0 || what > 8) {
            return -1;
        }
        return new int[] {world.wide, world.high, world.all.size(), world.rude, world.reach, world.cross, world.hollow,
            world.frost, tape.length}[what];
    }
}
