import java.util.Arrays;
import java.util.NoSuchElementException;

/** A lake whose ice is held by manners: see README.md, and the document for every promise. */
public final class IceManners {
    public static final int NONE = -1;

    private static final int MOST_TAPE = 940;
    private static final int FED = 20;
    private static final int MOST_LAKE = 900;
    private static final int MOST_BOOK = 400;
    private static final int MOST_SENTENCE = 200;

    private static final int ROW = 8;
    private static final int CELLS = 64;
    private static final int SIDES = 4;
    private static final int MOST_PERSONS = 6;
    private static final int MOST_ICE = 9;
    private static final int MOST_TEMPER = 9;

    private static final int LAST_HOUR = 400;
    private static final int MOST_HOURS = 60;
    private static final int FORESEEN = 99;
    private static final int MOST_SEEDS = 30;
    private static final int ODDS_HOURS = 20;

    private static final int MOST_TRIPLES = 6;
    private static final int IMAGES = 2;
    private static final int TOLD = 4;
    private static final int OTHER_LIVES = -1000;
    /** Far more rounds than Euclid needs for the ICE of 64 cells. */
    private static final int MOST_ROUNDS = 64;

    /** The kinds of FAULTS, as fault() tells them. */
    private static final int CANNOT_COME = 1;
    private static final int WRONG_NUMBER = 2;
    private static final int MISTOLD = 3;
    private static final int TOO_MANY = 4;

    private static final int[] STEP_X = {1, 0, -1, 0};
    private static final int[] STEP_Y = {0, 1, 0, -1};

    private final int[] tape = new int[MOST_TAPE];
    private int size;

    private final Scene scene = new Scene();
    private final Scene draft = new Scene();
    private final Scene[] images = new Scene[IMAGES];
    private final boolean[] kept = new boolean[IMAGES];
    private final State trial = new State(scene.lake);
    private final History history = new History(scene.lake);

    private final Reader reader = new Reader(tape);
    private final Telling telling = new Telling(reader, draft);
    private final Book page = new Book();
    private final Ways ways = new Ways();
    private final StringBuilder text = new StringBuilder();
    private final int[] judged = new int[TOLD];
    private boolean hasJudged;
    private int faultKind;
    private int askCell = NONE;

    public IceManners() {
        for (int k = 0; k < IMAGES; k++) {
            images[k] = new Scene();
        }
    }

    // ---- the tape and the texts

    public int feed(int a, int b, int c, int d, int e) {
        if (size + FED > MOST_TAPE) {
            return NONE;
        }
        putBytes(a);
        putBytes(b);
        putBytes(c);
        putBytes(d);
        putBytes(e);
        return size;
    }

    private void putBytes(int number) {
        for (int shift = 24; shift >= 0 && size < MOST_TAPE; shift -= 8) {
            tape[size] = number >>> shift & 255;
            size++;
        }
    }

    public boolean end(int n) {
        if (n < 0 || n > size) {
            return false;
        }
        size = n;
        return true;
    }

    public int lake() {
        openTape(MOST_LAKE);
        int lines = telling.readLines();
        faultKind = reader.faultKind;
        if (reader.failed()) {
            return -1 - reader.faultPlace;
        }
        scene.copyFrom(draft);
        // an act of another LAKE has nothing here that it could be taken back from
        history.clear();
        return lines;
    }

    private void openTape(int most) {
        reader.open(size, most);
        size = 0;
    }

    public int fault() {
        return faultKind;
    }

    // ---- what is so

    public int person(int p, int what) throws NoSuchElementException {
        if (!scene.lake.isPerson(p)) {
            throw new NoSuchElementException("no such person");
        }
        State state = scene.state;
        switch (what) {
            case 0: return state.at[p] % ROW;
            case 1: return state.at[p] / ROW;
            case 2: return scene.lake.loads[p];
            case 3: return state.temper[p];
            case 4: return state.isFallen(p) ? 1 : 0;
            case 5: return state.praised[p];
            case 6: return state.openSides(p);
            case 7: return state.dangerOf(p);
            default: throw new NoSuchElementException("nothing such of a person");
        }
    }

    public int cell(int x, int y, int what) {
        if (!scene.lake.isCell(x, y)) {
            return NONE;
        }
        int cell = ROW * y + x;
        switch (what) {
            case 0: return scene.state.ice[cell];
            case 1: return scene.state.loadOn(cell, NONE);
            case 2: return scene.state.personsOn(cell);
            default: return NONE;
        }
    }

    public int now(int what) {
        State state = scene.state;
        switch (what) {
            case 0: return state.hour;
            case 1: return state.fallen;
            case 2: return state.bowed;
            case 3: return state.allIce();
            case 4: return state.bareCells();
            case 5: return state.bowsMade;
            case 6: return state.praisesMade;
            case 7: return state.oathsMade;
            default: return NONE;
        }
    }

    public int count(int what) {
        Lake lake = scene.lake;
        switch (what) {
            case 0: return lake.wide;
            case 1: return lake.high;
            case 2: return lake.people;
            case 3: return lake.rude;
            case 4: return lake.reach;
            case 5: return lake.cross;
            case 6: return lake.hollow;
            case 7: return lake.frost;
            case 8: return size;
            default: return NONE;
        }
    }

    public int mean(int what) throws NoSuchElementException {
        if (what != 0 && what != 1) {
            throw new NoSuchElementException("a fraction has two numbers");
        }
        int above = scene.state.allIce();
        int below = scene.lake.wide * scene.lake.high;
        int shared = greatestDivisor(below, above);
        return (what == 0 ? above : below) / shared;
    }

    private static int greatestDivisor(int a, int b) {
        int big = a;
        int small = b;
        for (int k = 0; k < MOST_ROUNDS && small > 0; k++) {
            int rest = big % small;
            big = small;
            small = rest;
        }
        return big > 0 ? big : 1;
    }

    // ---- acts

    public int go(int p, int side) {
        if (!scene.lake.isPerson(p) || side < 0 || side >= SIDES) {
            return NONE;
        }
        int why = scene.state.whyNotGo(p, side);
        if (why == 0) {
            history.keep(scene.state);
            scene.state.tryGo(p, side);
        }
        return why;
    }

    public int bow(int p) {
        if (!scene.lake.isPerson(p)) {
            return NONE;
        }
        int why = scene.state.whyNotBow(p);
        if (why == 0) {
            history.keep(scene.state);
            scene.state.tryBow(p);
        }
        return why;
    }

    public int praise(int p, int q) {
        if (!scene.lake.isPerson(p) || !scene.lake.isPerson(q)) {
            return NONE;
        }
        int why = scene.state.whyNotPraise(p, q);
        if (why == 0) {
            history.keep(scene.state);
            scene.state.tryPraise(p, q);
        }
        return why;
    }

    public int swear(int p) {
        if (!scene.lake.isPerson(p)) {
            return NONE;
        }
        int why = scene.state.whyNotSwear(p);
        if (why == 0) {
            history.keep(scene.state);
            scene.state.trySwear(p);
        }
        return why;
    }

    public int hours(int n) {
        if (n < 1 || n > MOST_HOURS) {
            return NONE;
        }
        int go = Math.min(n, scene.state.hoursLeft());
        if (go > 0) {
            history.keep(scene.state);
        }
        for (int k = 0; k < go; k++) {
            scene.state.passHour();
        }
        return go;
    }

    public int drawn(int n, int seed) {
        if (n < 1 || n > MOST_HOURS) {
            return NONE;
        }
        int go = Math.min(n, scene.state.hoursLeft());
        if (go > 0) {
            history.keep(scene.state);
            scene.state.seed = seed;
        }
        for (int k = 0; k < go; k++) {
            scene.state.drawHour();
        }
        return go;
    }

    public int undo() {
        return history.takeBack(scene.state) ? history.size : NONE;
    }

    // ---- ways

    public int way(int p, int x, int y) {
        return canSetOut(p, x, y) ? ways.fewestSteps(scene.state, p, ROW * y + x) : NONE;
    }

    private boolean canSetOut(int p, int x, int y) {
        return scene.lake.isPerson(p) && scene.lake.isCell(x, y) && !scene.state.isFallen(p);
    }

    public int wayAt(int k) {
        return ways.stepAt(k);
    }

    public int bows(int p, int x, int y) {
        return canSetOut(p, x, y) ? ways.leastBows(scene.state, p, ROW * y + x) : NONE;
    }

    public int firm(int p, int x, int y) {
        return canSetOut(p, x, y) ? ways.thickest(scene.state, p, ROW * y + x) : NONE;
    }

    // ---- what would be

    public int swears(int p) {
        if (!scene.lake.isPerson(p)) {
            return NONE;
        }
        trial.copyFrom(scene.state);
        trial.swearers = 0;
        int most = Math.min(FORESEEN, trial.hoursLeft());
        for (int k = 1; k <= most; k++) {
            trial.passHour();
            if ((trial.swearers >> p & 1) != 0) {
                return k;
            }
        }
        return NONE;
    }

    public int falls(int p) {
        if (!scene.lake.isPerson(p)) {
            return NONE;
        }
        if (scene.state.isFallen(p)) {
            return 0;
        }
        trial.copyFrom(scene.state);
        int most = Math.min(FORESEEN, trial.hoursLeft());
        for (int k = 1; k <= most; k++) {
            trial.passHour();
            if (trial.isFallen(p)) {
                return k;
            }
        }
        return NONE;
    }

    public int odds(int p, int n, int seed) {
        if (!scene.lake.isPerson(p) || n < 1 || n > MOST_SEEDS) {
            return NONE;
        }
        int safe = 0;
        int most = Math.min(ODDS_HOURS, scene.state.hoursLeft());
        for (int k = 0; k < n; k++) {
            trial.copyFrom(scene.state);
            trial.seed = seed + k;
            // nobody comes up again, so the HOURS behind his fall need not be drawn
            for (int h = 0; h < most && !trial.isFallen(p); h++) {
                trial.drawHour();
            }
            if (!trial.isFallen(p)) {
                safe++;
            }
        }
        return safe;
    }

    public int stands(int p) {
        if (!scene.lake.isPerson(p) || scene.state.isFallen(p)) {
            return NONE;
        }
        int cell = scene.state.at[p];
        int spare = scene.state.ice[cell] - scene.state.loadOn(cell, NONE);
        return Math.max(0, scene.lake.hollow - scene.state.praised[p]) + spare;
    }

    public int fair() {
        State state = scene.state;
        int load = state.allLoads();
        int best = NONE;
        int least = 0;
        for (int cell = 0; cell < CELLS; cell++) {
            if (scene.lake.hasCell(cell) && state.ice[cell] >= load) {
                int far = state.farFromAll(cell);
                if (best == NONE || far < least) {
                    best = cell;
                    least = far;
                }
            }
        }
        return best;
    }

    // ---- who swore

    public int swore() {
        int bytes = size;
        size = 0;
        if (!areTriples(bytes)) {
            return NONE;
        }
        int persons = 0;
        for (int p = 0; p < scene.lake.people; p++) {
            if (!scene.state.isFallen(p) && explains(p, bytes)) {
                persons |= 1 << p;
            }
        }
        if (persons > 0) {
            // fixed here, so that it stays "by the latest swore()" whatever is done behind it
            askCell = bestQuestion(persons);
        }
        return persons;
    }

    private boolean areTriples(int bytes) {
        if (bytes < 3 || bytes > 3 * MOST_TRIPLES || bytes % 3 != 0) {
            return false;
        }
        for (int i = 0; i + 2 < bytes; i += 3) {
            if (!scene.lake.isCell(tape[i], tape[i + 1])) {
                return false;
            }
        }
        return true;
    }

    private boolean explains(int p, int bytes) {
        for (int i = 0; i + 2 < bytes; i += 3) {
            int cell = ROW * tape[i + 1] + tape[i];
            if (scene.state.iceIfSworn(p, cell) != tape[i + 2]) {
                return false;
            }
        }
        return true;
    }

    private int bestQuestion(int persons) {
        int best = NONE;
        int least = 0;
        for (int cell = 0; cell < CELLS; cell++) {
            if (scene.lake.hasCell(cell)) {
                int left = mostAlike(persons, cell);
                if (best == NONE || left < least) {
                    best = cell;
                    least = left;
                }
            }
        }
        return best;
    }

    private int mostAlike(int persons, int cell) {
        int most = 0;
        for (int p = 0; p < scene.lake.people; p++) {
            int alike = 0;
            for (int q = 0; q < scene.lake.people && (persons >> p & 1) != 0; q++) {
                if ((persons >> q & 1) != 0
                        && scene.state.iceIfSworn(p, cell) == scene.state.iceIfSworn(q, cell)) {
                    alike++;
                }
            }
            most = Math.max(most, alike);
        }
        return most;
    }

    public int ask() {
        return askCell;
    }

    // ---- lines

    public int line(int p) {
        if (!scene.lake.isPerson(p)) {
            return NONE;
        }
        State state = scene.state;
        text.setLength(0);
        putName(scene.lake.names[p]);
        if (state.isFallen(p)) {
            text.append(" fell");
        } else {
            text.append(" at ").append(state.at[p] % ROW);
            text.append(' ').append(state.at[p] / ROW);
            text.append(" on ").append(state.ice[state.at[p]]);
        }
        if ((state.bowed >> p & 1) != 0) {
            text.append(" bowed");
        }
        return text.length();
    }

    private void putName(long name) {
        for (int shift = 8 * (Reader.MOST_LETTERS - 1); shift >= 0; shift -= 8) {
            int letter = (int) (name >>> shift) & 255;
            if (letter != 0) {
                text.append((char) letter);
            }
        }
    }

    public int byteAt(int i) {
        return i >= 0 && i < text.length() ? (int) text.charAt(i) : NONE;
    }

    // ---- books and sentences

    public int book(int lives) {
        if (lives != 0 && lives != 1) {
            return OTHER_LIVES;
        }
        openTape(MOST_BOOK);
        page.readLines(reader, scene.lake);
        faultKind = reader.faultKind;
        if (reader.failed()) {
            return -2 - reader.faultPlace;
        }
        trial.copyFrom(scene.state);
        int right = page.liveIn(trial);
        noteJudged(right);
        if (lives == 1 && right > 0) {
            history.keep(scene.state);
            scene.state.copyFrom(trial);
        }
        return page.why == 0 ? NONE : right;
    }

    private void noteJudged(int right) {
        judged[0] = page.why;
        judged[1] = right;
        judged[2] = trial.hour;
        judged[3] = trial.fallen;
        hasJudged = true;
    }

    public int told(int what) {
        return hasJudged && what >= 0 && what < TOLD ? judged[what] : NONE;
    }

    public int sentence() {
        openTape(MOST_SENTENCE);
        draft.sentence.read(reader, scene.lake);
        faultKind = reader.faultKind;
        if (reader.failed()) {
            return -1 - reader.faultPlace;
        }
        scene.sentence.copyFrom(draft.sentence);
        return scene.sentence.ones;
    }

    public int said(int k) {
        if (!scene.sentence.isThere()) {
            return NONE;
        }
        int found = 0;
        for (int p = 0; p < scene.lake.people; p++) {
            if (scene.sentence.holdsOf(p, scene.state)) {
                if (found == k) {
                    return p;
                }
                found++;
            }
        }
        return k == NONE ? found : NONE;
    }

    // ---- images

    public boolean image(int k) {
        if (k < 0 || k >= IMAGES) {
            return false;
        }
        images[k].copyFrom(scene);
        kept[k] = true;
        return true;
    }

    public boolean restore(int k) {
        if (k < 0 || k >= IMAGES || !kept[k]) {
            return false;
        }
        scene.copyFrom(images[k]);
        history.clear();
        return true;
    }

    /** The kinds of TOKENS: every fixed WORD and sign is one of its own. */
    private enum Kind {
        END(""), BAD(""), DIGITS(""), NAME(""),
        SEMICOLON(";"), LESS("<"), EQUAL("="), MORE(">"), OPEN("("), CLOSE(")"),
        LAKE("lake"), ICE("ice"), PERSON("person"), RUDE("rude"),
        CROSS("cross"), HOLLOW("hollow"), FROST("frost"),
        EAST("east"), SOUTH("south"), WEST("west"), NORTH("north"),
        BOWS("bows"), PRAISES("praises"), SWEARS("swears"), HOUR("hour"),
        OR("or"), AND("and"), NOT("not"), FALLEN("fallen"), BOWED("bowed"),
        BY("by"), OVER("over"), TEMPER("temper"), LOAD("load"),
        PRAISED("praised"), NUMBER("number");

        private static final Kind[] ALL = values();

        private final long code;

        Kind(String written) {
            long packed = 0;
            for (int i = 0; i < written.length(); i++) {
                packed = packed << 8 | written.charAt(i);
            }
            // a byte of 0 in a text packs to 0, too: what has no text must not be found by it
            code = written.isEmpty() ? -1 : packed;
        }

        static Kind byCode(long code, Kind otherwise) {
            for (int k = 0; k < ALL.length; k++) {
                if (ALL[k].code == code) {
                    return ALL[k];
                }
            }
            return otherwise;
        }

        int side() {
            switch (this) {
                case EAST: return 0;
                case SOUTH: return 1;
                case WEST: return 2;
                case NORTH: return 3;
                default: return NONE;
            }
        }
    }

    /**
     * Goes along a text TOKEN by TOKEN. The first FAULT stays, and behind it nothing is taken any more:
     * so those who read need not look for it at each step.
     */
    private static final class Reader {
        static final int MOST_LETTERS = 7;
        static final int MOST_DIGITS = 3;
        static final int MOST_NUMBER = 999;

        private final int[] text;
        private int size;
        private int most;
        private int next;
        private int start;
        private int takenAt;
        private int value;
        private long name;
        private int letters;
        private int digits;
        Kind kind = Kind.END;
        int faultKind;
        int faultPlace;

        Reader(int[] text) {
            this.text = text;
        }

        void open(int size, int most) {
            this.size = Math.min(size, text.length);
            this.most = most;
            next = 0;
            start = 0;
            faultKind = 0;
            faultPlace = 0;
            advance();
        }

        boolean failed() {
            return faultKind != 0;
        }

        /** Whether the text may end here: one that is too long may not. */
        boolean atEnd() {
            return kind == Kind.END && size <= most;
        }

        void fail(int fault) {
            failAt(start, fault);
        }

        void failTaken(int fault) {
            failAt(takenAt, fault);
        }

        private void failAt(int place, int fault) {
            if (faultKind == 0) {
                faultKind = fault;
                faultPlace = place;
            }
        }

        void advance() {
            takenAt = start;
            int bound = Math.min(size, most);
            while (next < bound && (text[next] == ' ' || text[next] == '\n')) {
                next++;
            }
            start = Math.min(next, bound);
            if (next >= bound) {
                kind = Kind.END;
                return;
            }
            readRun();
            if (letters + digits == 0) {
                kind = Kind.byCode(text[next], Kind.BAD);
                next++;
            } else if (digits == 0 && letters <= MOST_LETTERS) {
                kind = Kind.byCode(name, Kind.NAME);
            } else {
                kind = letters == 0 && digits <= MOST_DIGITS ? Kind.DIGITS : Kind.BAD;
            }
        }

        /** Goes on to the text's own end, as a TOKEN that begins ahead of the most bytes is read whole. */
        private void readRun() {
            letters = 0;
            digits = 0;
            name = 0;
            value = 0;
            for (; next < size; next++) {
                int sign = text[next];
                if (sign >= 'a' && sign <= 'z') {
                    letters++;
                    name = name << 8 | sign;
                } else if (sign >= '0' && sign <= '9') {
                    digits++;
                    value = 10 * value + sign - '0';
                } else {
                    return;
                }
            }
        }

        void take(Kind wanted) {
            if (failed()) {
                return;
            }
            if (kind == wanted) {
                advance();
            } else {
                fail(CANNOT_COME);
            }
        }

        int takeNumber(int least, int greatest) {
            if (kind != Kind.DIGITS) {
                fail(CANNOT_COME);
            } else if (value < least || value > greatest) {
                fail(WRONG_NUMBER);
            }
            if (failed()) {
                return least;
            }
            int number = value;
            advance();
            return number;
        }

        /** The NAME of a PERSON who is told already: his number (0 behind a FAULT). */
        int takePerson(Lake lake) {
            int person = NONE;
            if (kind != Kind.NAME) {
                fail(CANNOT_COME);
            } else {
                person = lake.personCalled(name);
            }
            if (person == NONE) {
                fail(MISTOLD);
            }
            if (failed()) {
                return 0;
            }
            advance();
            return person;
        }

        long takeNewName(Lake lake) {
            if (kind != Kind.NAME) {
                fail(CANNOT_COME);
            } else if (lake.personCalled(name) != NONE) {
                fail(MISTOLD);
            }
            if (failed()) {
                return 0;
            }
            long taken = name;
            advance();
            return taken;
        }
    }

    /** What a LAKE's text tells once and for all. */
    private static final class Lake {
        int wide;
        int high;
        int people;
        int rude;
        int reach;
        int cross;
        int hollow;
        int frost;
        final long[] names = new long[MOST_PERSONS];
        final int[] loads = new int[MOST_PERSONS];

        Lake() {
            setUntold();
        }

        void setUntold() {
            wide = 5;
            high = 5;
            people = 0;
            rude = 2;
            reach = 1;
            cross = 5;
            hollow = 3;
            frost = 6;
        }

        void copyFrom(Lake other) {
            wide = other.wide;
            high = other.high;
            people = other.people;
            rude = other.rude;
            reach = other.reach;
            cross = other.cross;
            hollow = other.hollow;
            frost = other.frost;
            System.arraycopy(other.names, 0, names, 0, MOST_PERSONS);
            System.arraycopy(other.loads, 0, loads, 0, MOST_PERSONS);
        }

        boolean isPerson(int p) {
            return p >= 0 && p < people;
        }

        boolean isCell(int x, int y) {
            return x >= 0 && x < wide && y >= 0 && y < high;
        }

        boolean hasCell(int cell) {
            return isCell(cell % ROW, cell / ROW);
        }

        int beside(int cell, int side) {
            if (side < 0 || side >= SIDES) {
                return NONE;
            }
            int x = cell % ROW + STEP_X[side];
            int y = cell / ROW + STEP_Y[side];
            return isCell(x, y) ? ROW * y + x : NONE;
        }

        int personCalled(long name) {
            for (int p = 0; p < people; p++) {
                if (names[p] == name) {
                    return p;
                }
            }
            return NONE;
        }

        static int far(int one, int other) {
            int x = one % ROW - other % ROW;
            int y = one / ROW - other / ROW;
            return (x < 0 ? -x : x) + (y < 0 ? -y : y);
        }
    }

    /** What is so on a LAKE in an HOUR. Cells are 8 by Y and X, so that the least Y, then X, is the least cell. */
    private static final class State {
        private static final int UNTOLD_ICE = 5;

        private final Lake lake;
        final int[] ice = new int[CELLS];
        final int[] at = new int[MOST_PERSONS];
        final int[] temper = new int[MOST_PERSONS];
        final int[] praised = new int[MOST_PERSONS];
        int fallen;
        int bowed;
        int hour;
        int bowsMade;
        int praisesMade;
        int oathsMade;
        /** Who swore, as bits: kept for swears() alone, who clears it first. */
        int swearers;
        /** The x of the draws: set anew ahead of the first one of each call. */
        int seed;

        State(Lake lake) {
            this.lake = lake;
            Arrays.fill(ice, UNTOLD_ICE);
        }

        void setUntold() {
            Arrays.fill(ice, UNTOLD_ICE);
            Arrays.fill(praised, 0);
            fallen = 0;
            bowed = 0;
            hour = 0;
            bowsMade = 0;
            praisesMade = 0;
            oathsMade = 0;
        }

        void copyFrom(State other) {
            System.arraycopy(other.ice, 0, ice, 0, CELLS);
            System.arraycopy(other.at, 0, at, 0, MOST_PERSONS);
            System.arraycopy(other.temper, 0, temper, 0, MOST_PERSONS);
            System.arraycopy(other.praised, 0, praised, 0, MOST_PERSONS);
            fallen = other.fallen;
            bowed = other.bowed;
            hour = other.hour;
            bowsMade = other.bowsMade;
            praisesMade = other.praisesMade;
            oathsMade = other.oathsMade;
        }

        boolean isFallen(int p) {
            return (fallen >> p & 1) != 0;
        }

        int hoursLeft() {
            return Math.max(0, LAST_HOUR - hour);
        }

        int loadOn(int cell, int except) {
            int load = 0;
            for (int p = 0; p < lake.people; p++) {
                if (at[p] == cell && p != except && !isFallen(p)) {
                    load += lake.loads[p];
                }
            }
            return load;
        }

        int personsOn(int cell) {
            int persons = 0;
            for (int p = 0; p < lake.people; p++) {
                if (at[p] == cell && !isFallen(p)) {
                    persons |= 1 << p;
                }
            }
            return persons;
        }

        /** How much the cell must bear if he comes to it; on his own cell he is not counted twice. */
        int loadWith(int p, int cell) {
            return loadOn(cell, p) + lake.loads[p];
        }

        int allLoads() {
            int load = 0;
            for (int p = 0; p < lake.people; p++) {
                load += isFallen(p) ? 0 : lake.loads[p];
            }
            return load;
        }

        int farFromAll(int cell) {
            int far = 0;
            for (int p = 0; p < lake.people; p++) {
                far += isFallen(p) ? 0 : Lake.far(at[p], cell);
            }
            return far;
        }

        int allIce() {
            int all = 0;
            for (int cell = 0; cell < CELLS; cell++) {
                all += lake.hasCell(cell) ? ice[cell] : 0;
            }
            return all;
        }

        int bareCells() {
            int bare = 0;
            for (int cell = 0; cell < CELLS; cell++) {
                bare += lake.hasCell(cell) && ice[cell] == 0 ? 1 : 0;
            }
            return bare;
        }

        int openSides(int p) {
            int sides = 0;
            for (int side = 0; side < SIDES; side++) {
                sides |= whyNotGo(p, side) == 0 ? 1 << side : 0;
            }
            return sides;
        }

        int iceIfSworn(int p, int cell) {
            return Lake.far(at[p], cell) <= lake.reach ? Math.max(0, ice[cell] - lake.rude) : ice[cell];
        }

        int dangerOf(int p) {
            int danger = 0;
            for (int q = 0; q < lake.people && !isFallen(p); q++) {
                if (!isFallen(q) && loadOn(at[q], NONE) > iceIfSworn(p, at[q])) {
                    danger |= 1 << q;
                }
            }
            return danger;
        }

        int whyNotGo(int p, int side) {
            if (isFallen(p)) {
                return 1;
            }
            int cell = lake.beside(at[p], side);
            if (cell == NONE) {
                return 2;
            }
            return loadWith(p, cell) > ice[cell] ? 3 : 0;
        }

        int tryGo(int p, int side) {
            int why = whyNotGo(p, side);
            if (why == 0) {
                at[p] = lake.beside(at[p], side);
            }
            return why;
        }

        int whyNotBow(int p) {
            if (isFallen(p)) {
                return 1;
            }
            return (bowed >> p & 1) != 0 ? 2 : 0;
        }

        int tryBow(int p) {
            int why = whyNotBow(p);
            if (why == 0) {
                bowed |= 1 << p;
                bowsMade++;
                ice[at[p]] = Math.min(MOST_ICE, ice[at[p]] + 1);
                temper[p] = Math.max(0, temper[p] - 1);
            }
            return why;
        }

        int whyNotPraise(int p, int q) {
            if (p == q) {
                return 1;
            }
            if (isFallen(p) || isFallen(q)) {
                return 2;
            }
            return Lake.far(at[p], at[q]) > 1 ? 3 : 0;
        }

        int tryPraise(int p, int q) {
            int why = whyNotPraise(p, q);
            if (why == 0) {
                praised[q]++;
                praisesMade++;
                temper[q] = Math.max(0, temper[q] - 1);
                if (praised[q] > lake.hollow) {
                    thin(at[q]);
                }
            }
            return why;
        }

        private void thin(int cell) {
            ice[cell] = Math.max(0, ice[cell] - 1);
            if (loadOn(cell, NONE) > ice[cell]) {
                fallen |= personsOn(cell);
            }
        }

        int whyNotSwear(int p) {
            return isFallen(p) ? 1 : 0;
        }

        int trySwear(int p) {
            int why = whyNotSwear(p);
            if (why == 0) {
                breakRound(p);
            }
            return why;
        }

        private void breakRound(int p) {
            int falling = dangerOf(p);
            int top = Math.max(0, at[p] / ROW - lake.reach);
            int bottom = Math.min(lake.high - 1, at[p] / ROW + lake.reach);
            for (int cell = ROW * top; cell < ROW * bottom + lake.wide; cell++) {
                ice[cell] = iceIfSworn(p, cell);
            }
            fallen |= falling;
            temper[p] = 0;
            oathsMade++;
            swearers |= 1 << p;
        }

        void passHour() {
            for (int p = 0; p < lake.people; p++) {
                if (!isFallen(p)) {
                    temper[p] = Math.min(MOST_TEMPER, temper[p] + othersNear(p));
                    if (temper[p] >= lake.cross) {
                        breakRound(p);
                    }
                }
            }
            hour++;
            if (lake.frost > 0 && hour % lake.frost == 0) {
                freeze();
            }
            bowed = 0;
            Arrays.fill(praised, 0);
        }

        private int othersNear(int p) {
            int near = 0;
            for (int q = 0; q < lake.people; q++) {
                if (q != p && !isFallen(q) && Lake.far(at[p], at[q]) <= 1) {
                    near++;
                }
            }
            return near;
        }

        private void freeze() {
            for (int cell = 0; cell < CELLS; cell++) {
                ice[cell] = Math.min(MOST_ICE, ice[cell] + 1);
            }
        }

        void drawHour() {
            for (int p = 0; p < lake.people; p++) {
                drawAct(p);
            }
            passHour();
        }

        private void drawAct(int p) {
            int act = draw(8);
            if (act < SIDES) {
                tryGo(p, act);
            } else if (act == 4) {
                tryBow(p);
            } else if (act == 5) {
                tryPraise(p, draw(lake.people));
            } else if (act == 6 && draw(4) == 0) {
                trySwear(p);
            }
        }

        private int draw(int n) {
            seed = seed * 1103515245 + 12345;
            return n > 0 ? (seed >>> 8) % n : 0;
        }
    }

    /** All that an image keeps. */
    private static final class Scene {
        final Lake lake = new Lake();
        final State state = new State(lake);
        final Sentence sentence = new Sentence();

        void setUntold() {
            lake.setUntold();
            state.setUntold();
            sentence.clear();
        }

        void copyFrom(Scene other) {
            lake.copyFrom(other.lake);
            state.copyFrom(other.state);
            sentence.copyFrom(other.sentence);
        }
    }

    /** The states ahead of the latest acts, in a ring: the ninth takes the first one's room. */
    private static final class History {
        private static final int MOST_KEPT = 8;

        private final State[] states = new State[MOST_KEPT];
        private int next;
        int size;

        History(Lake lake) {
            for (int k = 0; k < MOST_KEPT; k++) {
                states[k] = new State(lake);
            }
        }

        void clear() {
            size = 0;
        }

        void keep(State state) {
            states[next].copyFrom(state);
            next = (next + 1) % MOST_KEPT;
            size = Math.min(MOST_KEPT, size + 1);
        }

        boolean takeBack(State state) {
            if (size == 0) {
                return false;
            }
            size--;
            next = (next + MOST_KEPT - 1) % MOST_KEPT;
            state.copyFrom(states[next]);
            return true;
        }
    }

    /** Reads a LAKE's text into a draft, so that a FAULT leaves the LAKE that there is. */
    private static final class Telling {
        private final Reader reader;
        private final Scene draft;
        private boolean lakeTold;
        private boolean rudeTold;
        private boolean crossTold;
        private boolean hollowTold;
        private boolean frostTold;
        private boolean placeTold;
        private long iceTold;

        Telling(Reader reader, Scene draft) {
            this.reader = reader;
            this.draft = draft;
        }

        /** How many LINES there are; the reader has the FAULT. */
        int readLines() {
            draft.setUntold();
            lakeTold = false;
            rudeTold = false;
            crossTold = false;
            hollowTold = false;
            frostTold = false;
            placeTold = false;
            iceTold = 0;
            int lines = 0;
            while (lines < MOST_TAPE && !reader.failed() && !reader.atEnd()) {
                readLine();
                reader.take(Kind.SEMICOLON);
                lines++;
            }
            return lines;
        }

        private void readLine() {
            Lake lake = draft.lake;
            switch (reader.kind) {
                case LAKE:
                    readLake();
                    break;
                case ICE:
                    readIce();
                    break;
                case PERSON:
                    readPerson();
                    break;
                case RUDE:
                    rudeTold = takeOnce(rudeTold);
                    lake.rude = reader.takeNumber(1, 9);
                    lake.reach = reader.takeNumber(0, 3);
                    break;
                case CROSS:
                    crossTold = takeOnce(crossTold);
                    lake.cross = reader.takeNumber(2, 9);
                    break;
                case HOLLOW:
                    hollowTold = takeOnce(hollowTold);
                    lake.hollow = reader.takeNumber(1, 9);
                    break;
                case FROST:
                    frostTold = takeOnce(frostTold);
                    lake.frost = reader.takeNumber(1, 30);
                    break;
                default:
                    reader.fail(CANNOT_COME);
            }
        }

        private boolean takeOnce(boolean told) {
            if (told) {
                reader.fail(MISTOLD);
            } else {
                reader.advance();
            }
            return true;
        }

        private void readLake() {
            lakeTold = takeOnce(lakeTold || placeTold);
            draft.lake.wide = reader.takeNumber(2, ROW);
            draft.lake.high = reader.takeNumber(2, ROW);
            Arrays.fill(draft.state.ice, reader.takeNumber(0, MOST_ICE));
        }

        private void readIce() {
            takeOnce(draft.lake.people > 0);
            int cell = takeCell();
            if ((iceTold >>> cell & 1) != 0) {
                reader.failTaken(MISTOLD);
            }
            iceTold |= 1L << cell;
            draft.state.ice[cell] = reader.takeNumber(0, MOST_ICE);
        }

        /** X and Y; the first cell behind a FAULT. */
        private int takeCell() {
            placeTold = true;
            int x = reader.takeNumber(0, draft.lake.wide - 1);
            int y = reader.takeNumber(0, draft.lake.high - 1);
            return ROW * y + x;
        }

        private void readPerson() {
            Lake lake = draft.lake;
            int p = lake.people;
            if (p >= MOST_PERSONS) {
                reader.fail(TOO_MANY);
                return;
            }
            reader.advance();
            lake.names[p] = reader.takeNewName(lake);
            draft.state.at[p] = takeCell();
            lake.loads[p] = reader.takeNumber(1, 5);
            if (draft.state.loadWith(p, draft.state.at[p]) > draft.state.ice[draft.state.at[p]]) {
                reader.failTaken(MISTOLD);
            }
            draft.state.temper[p] = reader.takeNumber(0, 8);
            lake.people = p + 1;
        }
    }

    /** A BOOK, read whole ahead of its first LINE's being lived: a FAULT at its end lets nothing happen. */
    private static final class Book {
        private static final int MOST_LINES = 40;
        private static final int BOWING = 10;
        private static final int PRAISING = 20;
        private static final int SWEARING = 30;
        private static final int FEW_HOURS = 41;

        private final Kind[] acts = new Kind[MOST_LINES];
        private final int[] doers = new int[MOST_LINES];
        private final int[] objects = new int[MOST_LINES];
        private int size;
        int why;

        Book() {
            for (int k = 0; k < MOST_LINES; k++) {
                acts[k] = Kind.END;
            }
        }

        void readLines(Reader reader, Lake lake) {
            size = 0;
            while (size < MOST_LINES && !reader.failed() && !reader.atEnd()) {
                readLine(reader, lake);
                reader.take(Kind.SEMICOLON);
                size++;
            }
            if (!reader.failed() && !reader.atEnd()) {
                failBehindLast(reader, lake);
            }
        }

        /** Of one TOKEN the least FAULT counts, so the first WORD is judged as any other LINE's first. */
        private void failBehindLast(Reader reader, Lake lake) {
            if (reader.kind != Kind.HOUR) {
                reader.takePerson(lake);
                reader.failTaken(TOO_MANY);
            }
            reader.fail(TOO_MANY);
        }

        private void readLine(Reader reader, Lake lake) {
            doers[size] = 0;
            objects[size] = 0;
            if (reader.kind == Kind.HOUR) {
                acts[size] = Kind.HOUR;
                reader.advance();
                objects[size] = reader.takeNumber(1, MOST_HOURS);
                return;
            }
            doers[size] = reader.takePerson(lake);
            acts[size] = reader.kind;
            if (reader.kind == Kind.PRAISES) {
                reader.take(Kind.PRAISES);
                objects[size] = reader.takePerson(lake);
            } else if (reader.kind == Kind.BOWS || reader.kind == Kind.SWEARS || reader.kind.side() != NONE) {
                reader.take(reader.kind);
            } else {
                reader.fail(CANNOT_COME);
            }
        }

        /** How many LINES were lived, till one was WRONG. */
        int liveIn(State state) {
            why = 0;
            for (int k = 0; k < size; k++) {
                why = liveLine(k, state);
                if (why != 0) {
                    return k;
                }
            }
            return size;
        }

        private int liveLine(int k, State state) {
            switch (acts[k]) {
                case HOUR:
                    if (objects[k] > state.hoursLeft()) {
                        return FEW_HOURS;
                    }
                    for (int h = 0; h < objects[k]; h++) {
                        state.passHour();
                    }
                    return 0;
                case BOWS: return reason(BOWING, state.tryBow(doers[k]));
                case PRAISES: return reason(PRAISING, state.tryPraise(doers[k], objects[k]));
                case SWEARS: return reason(SWEARING, state.trySwear(doers[k]));
                default: return state.tryGo(doers[k], acts[k].side());
            }
        }

        private static int reason(int act, int why) {
            return why == 0 ? 0 : act + why;
        }
    }

    /** A SENTENCE, told in the order in which it is judged: what is joined stands ahead of what joins it. */
    private static final class Sentence {
        private static final int MOST_ONES = 20;
        private static final int MOST_WITHIN = 8;
        /** Each joining word stands between two ONES, so there are fewer of them than ONES. */
        private static final int MOST_PARTS = 2 * MOST_ONES;

        private final Kind[] parts = new Kind[MOST_PARTS];
        private final Kind[] signs = new Kind[MOST_PARTS];
        private final int[] numbers = new int[MOST_PARTS];
        private int size;
        int ones;

        Sentence() {
            for (int k = 0; k < MOST_PARTS; k++) {
                parts[k] = Kind.END;
                signs[k] = Kind.END;
            }
        }

        boolean isThere() {
            return size > 0;
        }

        void clear() {
            size = 0;
            ones = 0;
        }

        void copyFrom(Sentence other) {
            size = other.size;
            ones = other.ones;
            for (int k = 0; k < size; k++) {
                parts[k] = other.parts[k];
                signs[k] = other.signs[k];
                numbers[k] = other.numbers[k];
            }
        }

        void read(Reader reader, Lake lake) {
            clear();
            readSome(reader, lake, 1);
            if (!reader.atEnd()) {
                reader.fail(CANNOT_COME);
            }
        }

        private void readSome(Reader reader, Lake lake, int depth) {
            readAll(reader, lake, depth);
            for (int k = 0; k < MOST_ONES && reader.kind == Kind.OR && !reader.failed(); k++) {
                reader.advance();
                readAll(reader, lake, depth);
                add(Kind.OR, Kind.END, 0);
            }
        }

        private void readAll(Reader reader, Lake lake, int depth) {
            readOne(reader, lake, depth);
            for (int k = 0; k < MOST_ONES && reader.kind == Kind.AND && !reader.failed(); k++) {
                reader.advance();
                readOne(reader, lake, depth);
                add(Kind.AND, Kind.END, 0);
            }
        }

        private void readOne(Reader reader, Lake lake, int depth) {
            Kind kind = reader.kind;
            if (!beginsOne(kind)) {
                reader.fail(CANNOT_COME);
            } else if (ones >= MOST_ONES || depth > MOST_WITHIN) {
                reader.fail(TOO_MANY);
            }
            if (reader.failed()) {
                return;
            }
            ones++;
            reader.advance();
            switch (kind) {
                case NOT:
                    readOne(reader, lake, depth + 1);
                    add(kind, Kind.END, 0);
                    break;
                case OPEN:
                    readSome(reader, lake, depth + 1);
                    reader.take(Kind.CLOSE);
                    break;
                case FALLEN:
                case BOWED:
                    add(kind, Kind.END, 0);
                    break;
                case BY:
                case OVER:
                    add(kind, Kind.END, reader.takePerson(lake));
                    break;
                default:
                    Kind sign = takeSign(reader);
                    add(kind, sign, reader.takeNumber(0, Reader.MOST_NUMBER));
            }
        }

        private static boolean beginsOne(Kind kind) {
            switch (kind) {
                case NOT:
                case OPEN:
                case FALLEN:
                case BOWED:
                case BY:
                case OVER:
                case TEMPER:
                case LOAD:
                case ICE:
                case PRAISED:
                case NUMBER:
                    return true;
                default:
                    return false;
            }
        }

        private static Kind takeSign(Reader reader) {
            Kind sign = reader.kind;
            if (sign == Kind.LESS || sign == Kind.EQUAL || sign == Kind.MORE) {
                reader.advance();
            } else {
                reader.fail(CANNOT_COME);
            }
            return sign;
        }

        private void add(Kind part, Kind sign, int number) {
            if (size < MOST_PARTS) {
                parts[size] = part;
                signs[size] = sign;
                numbers[size] = number;
                size++;
            }
        }

        /** What is not joined yet waits in the bits of one number: 20 ONES fit into it. */
        boolean holdsOf(int p, State state) {
            int waiting = 0;
            for (int k = 0; k < size; k++) {
                int last = waiting & 1;
                switch (parts[k]) {
                    case NOT:
                        waiting ^= 1;
                        break;
                    case AND:
                        waiting = waiting >>> 1 & (~1 | last);
                        break;
                    case OR:
                        waiting = waiting >>> 1 | last;
                        break;
                    default:
                        waiting = waiting << 1 | (partHolds(k, p, state) ? 1 : 0);
                }
            }
            return (waiting & 1) != 0;
        }

        private boolean partHolds(int k, int p, State state) {
            switch (parts[k]) {
                case FALLEN: return state.isFallen(p);
                case BOWED: return (state.bowed >> p & 1) != 0;
                case BY: return Lake.far(state.at[p], state.at[numbers[k]]) <= 1;
                case OVER: return (state.dangerOf(p) >> numbers[k] & 1) != 0;
                default: return compare(measure(parts[k], p, state), signs[k], numbers[k]);
            }
        }

        private static int measure(Kind part, int p, State state) {
            switch (part) {
                case TEMPER: return state.temper[p];
                case LOAD: return state.lake.loads[p];
                case ICE: return state.ice[state.at[p]];
                case PRAISED: return state.praised[p];
                default: return p;
            }
        }

        private static boolean compare(int measured, Kind sign, int number) {
            if (sign == Kind.LESS) {
                return measured < number;
            }
            return sign == Kind.EQUAL ? measured == number : measured > number;
        }
    }

    /** Whither one can go, others staying as they are. */
    private static final class Ways {
        private static final int NEVER = 1000;

        private final int[] worth = new int[CELLS];
        private final int[] queue = new int[CELLS];
        private final int[] sides = new int[CELLS];
        private int steps;

        int stepAt(int k) {
            return k >= 0 && k < steps ? sides[k] : NONE;
        }

        int fewestSteps(State state, int p, int goal) {
            int start = state.at[p];
            if (goal != start && state.loadWith(p, goal) > state.ice[goal]) {
                return NONE;
            }
            measureFrom(state, p, goal);
            if (worth[start] == NEVER) {
                return NONE;
            }
            noteSides(state.lake, start);
            return steps;
        }

        /** Measured from the goal, so that each step of the way can take the least SIDE that comes nearer. */
        private void measureFrom(State state, int p, int goal) {
            Arrays.fill(worth, NEVER);
            worth[goal] = 0;
            queue[0] = goal;
            int filled = 1;
            for (int k = 0; k < filled && k < CELLS; k++) {
                for (int side = 0; side < SIDES; side++) {
                    int cell = state.lake.beside(queue[k], side);
                    if (cell != NONE && filled < CELLS && worth[cell] == NEVER
                            && state.loadWith(p, cell) <= state.ice[cell]) {
                        worth[cell] = worth[queue[k]] + 1;
                        queue[filled] = cell;
                        filled++;
                    }
                }
            }
        }

        private void noteSides(Lake lake, int start) {
            int cell = start;
            steps = worth[start];
            for (int k = 0; k < steps && k < CELLS; k++) {
                int side = nearerSide(lake, cell);
                int next = lake.beside(cell, side);
                sides[k] = side;
                cell = next == NONE ? cell : next;
            }
        }

        private int nearerSide(Lake lake, int cell) {
            for (int side = 0; side < SIDES; side++) {
                int next = lake.beside(cell, side);
                if (next != NONE && worth[next] < worth[cell]) {
                    return side;
                }
            }
            return NONE;
        }

        int leastBows(State state, int p, int goal) {
            Arrays.fill(worth, NEVER);
            worth[state.at[p]] = 0;
            boolean better = true;
            for (int round = 0; round < CELLS && better; round++) {
                better = false;
                for (int cell = 0; cell < CELLS; cell++) {
                    if (worth[cell] != NEVER && spreadBows(state, p, cell)) {
                        better = true;
                    }
                }
            }
            return worth[goal] == NEVER ? NONE : worth[goal];
        }

        private boolean spreadBows(State state, int p, int cell) {
            boolean better = false;
            for (int side = 0; side < SIDES; side++) {
                int next = state.lake.beside(cell, side);
                int load = next == NONE ? NEVER : state.loadWith(p, next);
                if (load <= MOST_ICE) {
                    int bows = worth[cell] + Math.max(0, load - state.ice[next]);
                    if (bows < worth[next]) {
                        worth[next] = bows;
                        better = true;
                    }
                }
            }
            return better;
        }

        int thickest(State state, int p, int goal) {
            int start = state.at[p];
            if (goal == start) {
                return state.ice[start];
            }
            Arrays.fill(worth, NONE);
            worth[start] = MOST_ICE;
            boolean better = true;
            for (int round = 0; round < CELLS && better; round++) {
                better = false;
                for (int cell = 0; cell < CELLS; cell++) {
                    if (worth[cell] != NONE && spreadThickness(state, p, cell)) {
                        better = true;
                    }
                }
            }
            return worth[goal];
        }

        private boolean spreadThickness(State state, int p, int cell) {
            boolean better = false;
            for (int side = 0; side < SIDES; side++) {
                int next = state.lake.beside(cell, side);
                if (next != NONE && state.loadWith(p, next) <= state.ice[next]) {
                    int thin = Math.min(worth[cell], state.ice[next]);
                    if (thin > worth[next]) {
                        worth[next] = thin;
                        better = true;
                    }
                }
            }
            return better;
        }
    }
}
