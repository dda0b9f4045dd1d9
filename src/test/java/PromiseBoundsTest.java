/** Each boundary case that promises 1 to 36 name: numbers just within and just beyond, what is empty, full or refused. */
public final class PromiseBoundsTest {
    private static final int MIN = Integer.MIN_VALUE;
    private static final int MAX = Integer.MAX_VALUE;

    public static void main(String[] args) {
        tape();
        lakes();
        seen();
        acts();
        ways();
        foresight();
        told();
        texts();
        kept();
        for (int k = 1; k <= 36; k++) {
            Check.due("promise " + k + " has a boundary case", Bound.hasBoundOf("Promise " + k), true);
        }
        Bound.finish();
    }

    /** Four by three cells, three persons: the last cell is 3 2, the last person 2. */
    private static IceManners three() {
        return Check.onLake("lake 4 3 5;rude 9 0;cross 9;frost 30;person a 0 0 2 3;person b 1 0 1 0;person c 3 2 1 1;");
    }

    /** Numbers of persons that there are not, where there are so many. */
    private static int[] notOf(int many) {
        return new int[] {many, -1, many + 1, 6, 8, MIN, MAX};
    }

    private static IceManners atHour(int hour, String lake) {
        IceManners x = Check.onLake(lake);
        for (int left = hour; left > 0; left -= Math.min(60, left)) {
            x.hours(Math.min(60, left));
        }
        return x;
    }

    // ---- promises 1, 2, 3, 36

    private static void tape() {
        newObject();
        most940();
        highestFirst();
        ends();
        counts();
    }

    private static void newObject() {
        Bound.of("Promise 1", "A LAKE of 5 by 5 cells with 5 ICE each without PERSONS; an empty tape");
        IceManners x = new IceManners();
        Bound.within("wide", x.count(0), 5);
        Bound.within("high", x.count(1), 5);
        Bound.within("the last cell", x.cell(4, 4, 0), 5);
        Bound.within("all ice", x.now(3), 125);
        Bound.within("the tape", x.count(8), 0);
        Bound.within("its end", x.end(0), true);
        Bound.beyond("no sixth column", x.cell(5, 4, 0), -1);
        Bound.beyond("no sixth row", x.cell(4, 5, 0), -1);
        Bound.beyond("no PERSONS", x.count(2), 0);
        Bound.beyond("nor the first", Check.personThrows(x, 0, 0), true);
        Bound.beyond("no byte on the tape", x.end(1), false);
        Bound.beyond("two objects share nothing", Check.onLake("lake 2 2 1;").count(0) + x.count(0), 7);
    }

    private static void most940() {
        Bound.of("Promise 2", "NONE, and none come, if it would have more than 940");
        IceManners x = new IceManners();
        for (int k = 1; k <= 47; k++) {
            Bound.within("feed " + k, x.feed(0x20202020, 0x20202020, 0x20202020, 0x20202020, 0x20202020), 20 * k);
        }
        Bound.beyond("960", x.feed(0, 0, 0, 0, 0), -1);
        Bound.beyond("none came", x.count(8), 940);
        for (int size = 939; size > 920; size--) {
            x.end(size);
            Bound.beyond("to " + (size + 20), x.feed(0, 0, 0, 0, 0), -1);
            Bound.beyond("none came", x.count(8), size);
        }
        x.end(920);
        Bound.within("to 940", x.feed(MIN, MAX, -1, 0, 1), 940);
        x.end(919);
        Bound.within("to 939", x.feed(MIN, MAX, -1, 0, 1), 939);
    }

    private static void highestFirst() {
        Bound.of("Promise 2", "Twenty bytes come behind the tape, of each number the highest first: how many it has");
        IceManners x = Check.onLake("rude 1 0;person a 0 0 1 0;");
        Bound.within("one byte of each is asked", x.feed(0x00000402, 0x000500ff, 0xffffffff, -1, -1), 20);
        x.end(6);
        Bound.within("0 0 4 and 2 0 5", x.swore(), 1);
        x.feed(0x00000504, 0x000500ff, 0, 0, 0);
        x.end(6);
        Bound.beyond("0 0 5 and 4 0 5", x.swore(), 0);
        x.feed(0x04020000, 0, 0, 0, 0);
        x.end(3);
        Bound.beyond("4 2 0, not 0 0 2", x.swore(), 0);
        x.feed(0x20202020, 0x20202020, 0x20202020, 0x20202020, 0x20202020);
        x.end(1);
        Bound.within("behind the tape", x.feed(0x6c616b65, 0x20342033, 0x20323b00, 0, 0), 21);
        x.end(12);
        Bound.within("it is the LAKE", x.lake(), 1);
        Bound.within("wide, high", x.count(0) * 10 + x.count(1), 43);
        Bound.within("the five of them", x.feed(0x6c616b65, 0x20202020, 0x2033200a, 0x20362020, 0x2035203b), 20);
        Bound.within("it is the LAKE", x.lake(), 1);
        Bound.within("wide, high, thick", x.count(0) * 100 + x.count(1) * 10 + x.cell(2, 5, 0), 365);
    }

    private static void ends() {
        Bound.of("Promise 3", "The tape has its first n bytes alone: true; false, if it has not so many, or n is below 0");
        IceManners x = new IceManners();
        Bound.within("0 of 0", x.end(0), true);
        Bound.beyond("1 of 0", x.end(1), false);
        x.feed(0, 0, 0, 0, 0);
        Bound.within("20 of 20", x.end(20), true);
        Bound.beyond("21 of 20", x.end(21), false);
        Bound.beyond("-1", x.end(-1), false);
        Bound.beyond("the least int", x.end(MIN), false);
        Bound.beyond("the greatest int", x.end(MAX), false);
        Bound.beyond("it stays", x.count(8), 20);
        Bound.within("19 of 20", x.end(19), true);
        Bound.within("it has 19", x.count(8), 19);
        Bound.beyond("20 of 19", x.end(20), false);
        Bound.within("0 of 19", x.end(0), true);
        Bound.beyond("1 of 0 again", x.end(1), false);
    }

    private static void counts() {
        Bound.of("Promise 36", "NONE for another what");
        int[] want = {8, 2, 2, 9, 3, 8, 7, 30, 0};
        IceManners x = Check.onLake("lake 8 2 5;rude 9 3;cross 8;hollow 7;frost 30;person a 0 0 1 0;person b 0 0 1 0;");
        for (int what = 0; what < 9; what++) {
            Bound.within("count(" + what + ")", x.count(what), want[what]);
        }
        x.feed(0, 0, 0, 0, 0);
        Bound.within("20 bytes", x.count(8), 20);
        for (int what : new int[] {-1, 9, MIN, MAX}) {
            Bound.beyond("count(" + what + ")", x.count(what), -1);
        }
    }

    // ---- promises 4, 5

    private static void lakes() {
        linesOrPlace();
        nothingIsLeft();
        lakeStays();
        tapeIsEmpty();
        faultKinds();
        faultLeft();
    }

    private static void linesOrPlace() {
        Bound.of("Promise 4", "how many LINES; -1 less the place of a FAULT: it stays");
        Bound.lakeWithin("", 0);
        Bound.lakeWithin("frost 1;", 1);
        Bound.lakeWithin("frost 1;cross 2;rude 1 1;", 3);
        Bound.lakeBeyond(1, "^;");
        Bound.lakeBeyond(1, " ^;");
        Bound.lakeBeyond(1, Bound.pad("frost 1^", 900));
        Bound.lakeBeyond(1, Check.repeat("\n", 900) + "^\n");
    }

    private static void nothingIsLeft() {
        Bound.of("A new LAKE", "A new LAKE: HOUR 0, nobody has fallen, no SENTENCE");
        IceManners x = Check.onLake("lake 2 2 1;ice 0 0 2;ice 1 1 3;rude 9 3;cross 9;hollow 9;frost 9;person a 0 0 1 1;person b 0 0 1 1;");
        x.hours(1);
        x.bow(0);
        x.praise(0, 1);
        x.praise(1, 0);
        x.swear(1);
        Bound.beyond("much is so", x.now(0) + x.now(1) + x.now(5) + x.now(6) + x.now(7), 1 + 3 + 1 + 2 + 1);
        Bound.within("a LAKE that tells nothing", Check.lake(x, ""), 0);
        Bound.within("is as a new object's", Check.seen(x).equals(Check.seen(new IceManners())), true);
        Bound.within("what was told may be told again", Check.lake(x, "lake 2 2 1;ice 0 0 2;rude 9 3;person a 0 0 1 8;"), 4);
        Bound.within("once", x.now(3), 5);
        Bound.within("nobody was praised", x.person(0, 5), 0);
        Bound.beyond("a FAULT ahead of the same", Check.lake(x, "lake 3 3 3;ice 0 0 2;person a 0 0 2 9;"), -1 - 36);
        Bound.within("it may be told again", Check.lake(x, "ice 0 0 2;person a 0 0 2 8;"), 2);
        Bound.within("5 by 5 cells", x.now(3), 24 * 5 + 2);
    }

    private static void lakeStays() {
        Bound.of("Promise 4", "The tape (empty then, here and below) is the LAKE now");
        IceManners x = three();
        x.go(0, 1);
        x.bow(1);
        Check.sentence(x, "bowed");
        x.image(0);
        String before = Check.seen(x);
        Bound.beyond("a FAULT in the last TOKEN", Check.lake(x, "lake 2 2 2;rude 1 0;cross 2;hollow 1;frost 1;person z 0 0 1 9;"), -61);
        Bound.beyond("all stays", before.equals(Check.seen(x)), true);
        Bound.beyond("the SENTENCE", Check.saidOf(x), 2);
        Bound.beyond("the NAMES", Check.book(x, "a north;c bows;", 0), -1);
        Bound.beyond("what can be undone", x.undo(), 1);
        Bound.within("a LAKE as told", Check.lake(x, "lake 2 2 2;rude 1 0;cross 2;hollow 1;frost 1;person z 0 0 1 8;"), 6);
        Bound.within("its persons", x.count(2), 1);
        Bound.within("HOUR, fallen, who bowed", x.now(0) + x.now(1) + x.now(2), 0);
        Bound.within("no SENTENCE", x.said(-1), -1);
        Bound.within("no act of the other LAKE", x.undo(), -1);
        Bound.within("the image is kept", x.restore(0), true);
        Bound.within("as it was", before.equals(Check.seen(x)), true);
    }

    private static void tapeIsEmpty() {
        Bound.of("Promise 4", "(empty then, here and below)");
        IceManners x = three();
        Check.tape(x, "cross 2;");
        x.lake();
        Bound.within("behind lake()", x.count(8), 0);
        Check.tape(x, "cross 1;");
        x.lake();
        Bound.within("behind a FAULT", x.count(8), 0);
        x.feed(0, 0, 0, 0, 0);
        x.swore();
        Bound.within("behind a swore() of NONE", x.count(8), 0);
        x.feed(0, 0, 0, 0, 0);
        x.end(3);
        x.swore();
        Bound.within("behind swore()", x.count(8), 0);
        Check.tape(x, "a bows;");
        x.book(0);
        Bound.within("behind book()", x.count(8), 0);
        Check.tape(x, "fallen");
        x.sentence();
        Bound.within("behind sentence()", x.count(8), 0);
        Check.tape(x, "a bows;");
        x.book(2);
        Bound.beyond("behind a book() of -1000", x.count(8), 7);
        x.image(0);
        x.restore(0);
        Bound.beyond("behind restore()", x.count(8), 7);
    }

    private static void faultKinds() {
        Bound.of("Promise 5", "The kind of the FAULT of the latest lake(), book() or sentence()");
        IceManners x = three();
        String[] lakes = {"cross 2;", "cross a;", "cross 1;", "cross 2;cross 2;", six() + "person g 0 1 1 0;"};
        for (int kind = 0; kind <= 4; kind++) {
            Check.lake(x, lakes[kind]);
            Bound.within("of '" + lakes[kind] + "'", x.fault(), kind);
        }
        Check.lake(x, "person a 0 0 1 0;");
        String[] books = {"a bows;", "a;", "hour 61;", "b bows;", Check.repeat("a bows;", 41)};
        for (int kind = 0; kind <= 4; kind++) {
            Check.book(x, books[kind], 0);
            Bound.within("of '" + books[kind] + "'", x.fault(), kind);
        }
        String[] sentences = {"fallen", "a", "", "by b", "fallen" + Check.repeat(" or by a", 20)};
        int[] kinds = {0, 1, 1, 3, 4};
        for (int k = 0; k <= 4; k++) {
            Check.sentence(x, sentences[k]);
            Bound.within("of '" + sentences[k] + "'", x.fault(), kinds[k]);
        }
        Check.book(x, "a north;", 0);
        Bound.beyond("a WRONG LINE is no FAULT", x.fault(), 0);
    }

    private static String six() {
        return "person a 0 0 1 0;person b 1 0 1 0;person c 2 0 1 0;person d 3 0 1 0;person e 4 0 1 0;person f 4 1 1 0;";
    }

    private static void faultLeft() {
        Bound.of("Promise 5", "(a book() of -1000 leaves it); 0 without one and ahead of any");
        IceManners x = new IceManners();
        Bound.within("ahead of any", x.fault(), 0);
        x.book(2);
        Bound.beyond("ahead of any but a book() of -1000", x.fault(), 0);
        Check.lake(x, "cross 1;");
        Bound.within("2", x.fault(), 2);
        Check.tape(x, "person a 0 0 1 0;");
        Bound.beyond("-1000", x.book(-1), -1000);
        Bound.beyond("it is left", x.fault(), 2);
        Bound.within("a LAKE without one", x.lake(), 1);
        Bound.within("0 then", x.fault(), 0);
        Check.sentence(x, "by b");
        x.swore();
        x.go(0, 0);
        x.image(0);
        x.restore(0);
        Bound.beyond("no other call changes it", x.fault(), 3);
    }

    // ---- promises 6, 7, 8, 25

    private static void seen() {
        persons();
        fallenPersons();
        whereHeFell();
        asItWasThen();
        throwing();
        cells();
        nows();
        fractions();
    }

    private static boolean personStands(IceManners x, int p, int what) {
        return !Check.personThrows(x, p, what);
    }

    private static void persons() {
        Bound.of("Promise 6", "NoSuchElementException: no such ones");
        IceManners x = three();
        int[][] want = {{0, 0, 2, 3, 0, 0, 3, 1}, {1, 0, 1, 0, 0, 0, 7, 2}, {3, 2, 1, 1, 0, 0, 12, 4}};
        for (int p = 0; p < 3; p++) {
            for (int what = 0; what < 8; what++) {
                Bound.within("person(" + p + ", " + what + ")", x.person(p, what), want[p][what]);
            }
        }
        for (int p : notOf(3)) {
            Bound.beyond("person(" + p + ", 0)", Check.personThrows(x, p, 0), true);
            Bound.beyond("person(" + p + ", 7)", Check.personThrows(x, p, 7), true);
        }
        for (int what : new int[] {-1, 8, 9, MIN, MAX}) {
            Bound.beyond("person(0, " + what + ")", Check.personThrows(x, 0, what), true);
            Bound.beyond("person(3, " + what + ")", Check.personThrows(x, 3, what), true);
        }
        IceManners all = Check.onLake(six());
        Bound.within("the sixth", personStands(all, 5, 7), true);
        Bound.beyond("the seventh", Check.personThrows(all, 6, 0), true);
    }

    private static void fallenPersons() {
        Bound.of("Promise 6", "6 SIDES to which he can GO, 7 DANGER, as bits each (who has fallen: none)");
        IceManners x = three();
        Bound.within("sides in the corner", x.person(0, 6), 1 + 2);
        Bound.within("danger", x.person(0, 7), 1);
        x.praise(1, 0);
        x.swear(0);
        int[] want = {0, 0, 2, 0, 1, 1, 0, 0};
        for (int what = 0; what < 8; what++) {
            Bound.beyond("fallen: " + what, x.person(0, what), want[what]);
        }
        // a's cell has no ICE now: the sides of b are those that bear him
        Bound.within("sides beside bare ice", x.person(1, 6), 1 + 2);
        Bound.within("all sides", Check.onLake("person a 1 1 5 0;").person(0, 6), 15);
        Bound.within("no sides", Check.onLake("lake 2 2 0;ice 0 0 1;person a 0 0 1 0;").person(0, 6), 0);
    }

    private static void whereHeFell() {
        Bound.of("Promise 6", "0 X, 1 Y (where he is, or fell), 2 LOAD as told");
        IceManners x = Check.onLake("lake 8 7 5;rude 9 0;person a 6 6 5 8;");
        x.go(0, 0);
        Bound.within("where he is", x.person(0, 0) * 10 + x.person(0, 1), 76);
        x.go(0, 0);
        x.go(0, 1);
        Bound.within("no cell is beyond", x.person(0, 0) * 10 + x.person(0, 1), 76);
        x.swear(0);
        x.go(0, 2);
        Bound.beyond("where he fell", x.person(0, 0) * 10 + x.person(0, 1), 76);
        Bound.beyond("his LOAD is told still", x.person(0, 2), 5);
        x.hours(60);
        Bound.beyond("and 60 HOURS later", x.person(0, 0) * 10 + x.person(0, 1), 76);
    }

    private static void asItWasThen() {
        Bound.of("Promise 6", "3 TEMPER (who has fallen: as it was then), 4 fallen (1, 0), 5 how often praised in this HOUR");
        IceManners x = Check.onLake("hollow 1;cross 9;person a 0 0 3 5;person b 0 0 2 4;person c 1 0 1 0;");
        x.praise(2, 0);
        Bound.within("TEMPER", x.person(0, 3), 4);
        Bound.within("fallen", x.person(0, 4), 0);
        Bound.within("praised", x.person(0, 5), 1);
        x.praise(2, 0);
        Bound.beyond("who fell: the praise that broke the ice counts", x.person(0, 3), 3);
        Bound.beyond("fallen", x.person(0, 4), 1);
        Bound.beyond("praised", x.person(0, 5), 2);
        Bound.beyond("who fell with him", x.person(1, 3), 4);
        Bound.beyond("fallen", x.person(1, 4), 1);
        x.hours(3);
        Bound.beyond("TEMPER as it was then", x.person(0, 3) * 10 + x.person(1, 3), 34);
        Bound.beyond("praised in another HOUR", x.person(0, 5), 0);
    }

    private static void throwing() {
        Bound.of("A call that throws", "A call that throws changes nothing");
        IceManners x = three();
        x.bow(0);
        String before = Check.seen(x);
        Bound.beyond("it throws", Check.personThrows(x, 3, 0), true);
        Bound.beyond("so does mean()", Check.meanThrows(x, 2), true);
        Bound.within("a call that throws changes nothing", before.equals(Check.seen(x)), true);
        Bound.within("what can be undone stays", x.undo(), 0);
    }

    private static void cells() {
        Bound.of("Promise 7", "0 ICE, 1 LOADS on it, 2 who is on it, as bits (fallen ones are not). NONE: no such ones");
        IceManners x = three();
        Bound.within("ice", x.cell(3, 2, 0), 5);
        Bound.within("loads", x.cell(0, 0, 1), 2);
        Bound.within("who", x.cell(3, 2, 2), 4);
        int[][] none = {{4, 2, 0}, {3, 3, 0}, {-1, 0, 0}, {0, -1, 0}, {3, 2, 3}, {3, 2, -1}, {MIN, 0, 0}, {MAX, 0, 0},
            {0, MIN, 0}, {0, MAX, 0}, {0, 0, MIN}, {0, 0, MAX}, {8, 0, 0}, {0, 8, 0}, {7, 2, 0}, {3, 7, 0}, {-8, 1, 0}};
        for (int[] n : none) {
            Bound.beyond("cell(" + n[0] + ", " + n[1] + ", " + n[2] + ")", x.cell(n[0], n[1], n[2]), -1);
        }
        x.go(1, 2);
        Bound.within("loads of two", x.cell(0, 0, 1), 3);
        Bound.within("both", x.cell(0, 0, 2), 3);
        x.swear(1);
        Bound.beyond("no ice", x.cell(0, 0, 0), 0);
        Bound.beyond("loads of the fallen", x.cell(0, 0, 1), 0);
        Bound.beyond("fallen ones are not", x.cell(0, 0, 2), 0);
    }

    private static void nows() {
        Bound.of("Promise 8", "4 cells without ICE, 5 how often somebody bowed, 6 praised, 7 swore so far. NONE for another what");
        IceManners x = three();
        x.hours(2);
        x.bow(0);
        x.praise(0, 1);
        x.praise(1, 0);
        x.praise(1, 0);
        x.swear(2);
        int[] want = {2, 4, 1, 12 * 5 + 1 - 5, 1, 1, 3, 1};
        for (int what = 0; what < 8; what++) {
            Bound.within("now(" + what + ")", x.now(what), want[what]);
        }
        for (int what : new int[] {-1, 8, 9, MIN, MAX}) {
            Bound.beyond("now(" + what + ")", x.now(what), -1);
        }
        Bound.within("all cells are bare", Check.onLake("lake 8 8 0;").now(4), 64);
        Bound.within("the first is", Check.onLake("ice 0 0 0;").now(4), 1);
        Bound.within("the last is", Check.onLake("ice 4 4 0;").now(4), 1);
        Bound.within("none is", Check.onLake("lake 8 8 1;").now(4), 0);
        x.bow(0);
        x.praise(2, 0);
        x.swear(2);
        Bound.beyond("what is refused does not count", x.now(5) * 100 + x.now(6) * 10 + x.now(7), 131);
    }

    private static void fractions() {
        Bound.of("Promise 25", "NoSuchElementException: no such ones");
        IceManners x = Check.onLake("lake 2 2 0;");
        Bound.within("0 above", x.mean(0), 0);
        Bound.within("1 below", x.mean(1), 1);
        x = Check.onLake("lake 4 3 4;ice 1 0 2;");
        Bound.within("46 by 12: 23", x.mean(0), 23);
        Bound.within("46 by 12: 6", x.mean(1), 6);
        for (int what : new int[] {-1, 2, 3, MIN, MAX}) {
            Bound.beyond("mean(" + what + ")", Check.meanThrows(x, what), true);
        }
    }

    // ---- promises 9 to 14

    private static void acts() {
        goes();
        bows();
        praises();
        swears();
        hours();
        undoes();
        undoesWhat();
    }

    private static void goes() {
        Bound.of("Promise 9", "A PERSON GOES to a SIDE (0 to 3): 0, or why not; NONE: no such ones");
        IceManners x = Check.onLake("lake 3 3 5;person a 1 1 1 0;");
        int[] back = {2, 3, 0, 1};
        for (int side = 0; side < 4; side++) {
            Bound.within("side " + side, x.go(0, side), 0);
            Bound.within("and back", x.go(0, back[side]), 0);
        }
        String before = Check.seen(x);
        for (int side : new int[] {-1, 4, 5, MIN, MAX}) {
            Bound.beyond("side " + side, x.go(0, side), -1);
        }
        for (int p : notOf(1)) {
            Bound.beyond("person " + p, x.go(p, 0), -1);
            Bound.beyond("person " + p + ", no side", x.go(p, 4), -1);
        }
        Bound.beyond("all stays", before.equals(Check.seen(x)), true);
        Bound.beyond("nothing of it is kept", x.undo(), 7);
    }

    private static void bows() {
        Bound.of("Promise 10", "He BOWS: 0, or why not; NONE: no such one");
        IceManners x = three();
        Bound.within("the first", x.bow(0), 0);
        Bound.within("the last", x.bow(2), 0);
        String before = Check.seen(x);
        for (int p : notOf(3)) {
            Bound.beyond("person " + p, x.bow(p), -1);
        }
        Bound.beyond("why not", x.bow(0), 2);
        Bound.beyond("all stays", before.equals(Check.seen(x)), true);
        Bound.beyond("nothing of it is kept", x.undo(), 1);
    }

    private static void praises() {
        Bound.of("Promise 11", "He PRAISES a PERSON: 0, or why not; NONE: no such ones");
        IceManners x = three();
        Bound.within("a and b", x.praise(0, 1), 0);
        Bound.within("b and a", x.praise(1, 0), 0);
        String before = Check.seen(x);
        for (int p : notOf(3)) {
            Bound.beyond("person " + p, x.praise(p, 0), -1);
            Bound.beyond("of person " + p, x.praise(0, p), -1);
            Bound.beyond("both " + p, x.praise(p, p), -1);
        }
        Bound.beyond("why not", x.praise(0, 0), 1);
        Bound.beyond("why not", x.praise(0, 2), 3);
        Bound.beyond("all stays", before.equals(Check.seen(x)), true);
        Bound.beyond("nothing of it is kept", x.undo(), 1);
    }

    private static void swears() {
        Bound.of("Promise 12", "He SWEARS: 0, or why not; NONE: no such one");
        IceManners x = three();
        Bound.within("the first", x.swear(0), 0);
        Bound.within("the last", x.swear(2), 0);
        String before = Check.seen(x);
        for (int p : notOf(3)) {
            Bound.beyond("person " + p, x.swear(p), -1);
        }
        Bound.beyond("why not", x.swear(0), 1);
        Bound.beyond("all stays", before.equals(Check.seen(x)), true);
        Bound.beyond("nothing of it is kept", x.undo(), 1);
    }

    private static void hours() {
        Bound.of("Promise 13", "n (1 to 60) HOURS go by: how many did; NONE: not as told");
        IceManners x = Check.onLake("person a 0 0 1 0;");
        Bound.within("1", x.hours(1), 1);
        Bound.within("60", x.hours(60), 60);
        for (int n : new int[] {0, 61, -1, MIN, MAX}) {
            Bound.beyond(n + " hours", x.hours(n), -1);
        }
        Bound.beyond("none went by", x.now(0), 61);
        x = atHour(399, "person a 0 0 1 0;");
        Bound.within("as many as are left", x.hours(2), 1);
        Bound.beyond("all are over", x.hours(60), 0);
        Bound.beyond("not as told all the same", x.hours(61), -1);
        Bound.within("60 of 60 left", atHour(340, "").hours(60), 60);
        Bound.beyond("59 of 60", atHour(341, "").hours(60), 59);
    }

    private static void undoes() {
        Bound.of("Promise 14", "how many more can be (8 at most are kept); NONE: none is");
        IceManners x = three();
        Bound.beyond("none", x.undo(), -1);
        for (int k = 0; k < 9; k++) {
            x.hours(1);
        }
        for (int k = 8; k >= 1; k--) {
            Bound.within("undo", x.undo(), k - 1);
            Bound.within("as it was", x.now(0), k);
        }
        Bound.beyond("the ninth is not kept", x.undo(), -1);
        Bound.beyond("it stays", x.now(0), 1);
        // undone ones give their room back
        for (int k = 0; k < 8; k++) {
            x.hours(1);
        }
        Bound.within("eight again", x.undo(), 7);
        x.hours(1);
        x.hours(1);
        Bound.within("eight again", x.undo(), 7);
        for (int k = 6; k >= 0; k--) {
            Bound.within("undo", x.undo(), k);
        }
        Bound.beyond("none is left", x.undo(), -1);
    }

    private static void undoesWhat() {
        Bound.of("Promise 14", "The latest of go(), bow(), praise(), swear() that was done, hours() above 0, drawn() above 0, "
            + "a BOOK of which some LINE was lived is undone");
        IceManners x = three();
        int[] why = {x.go(0, 3), x.go(0, 4), x.praise(0, 2), x.praise(0, 0), x.hours(0), x.hours(61), x.drawn(0, 1), x.drawn(61, 1),
            Check.book(x, "a bows;b bows;", 0), Check.book(x, "a north;a bows;", 1), Check.book(x, "", 1),
            Check.book(x, "a bows;hour 0;", 1), Check.sentence(x, "fallen"), x.image(0) ? 1 : 0, x.way(0, 3, 0), x.line(0)};
        Bound.beyond("nothing of " + why.length + " is kept", x.undo(), -1);
        String before = Check.seen(x);
        int[] done = {x.go(2, 2), x.bow(0), x.praise(1, 0), x.swear(2), x.hours(1) - 1, x.drawn(1, 1) - 1,
            Check.book(x, "b bows;b bows;", 1) - 1};
        for (int k = 0; k < done.length; k++) {
            Bound.within("act " + k + " was done", done[k], 0);
        }
        for (int k = done.length - 1; k >= 0; k--) {
            Bound.within("undo", x.undo(), k);
        }
        Bound.beyond("no more", x.undo(), -1);
        Bound.within("as it was", before.equals(Check.seen(x)), true);
        x.bow(0);
        x.image(1);
        Bound.within("image() leaves it", x.undo(), 0);
        x.bow(0);
        x.restore(1);
        Bound.beyond("behind restore() nothing can be", x.undo(), -1);
        x = atHour(400, "person a 0 0 1 0;");
        x.bow(0);
        Bound.beyond("no HOUR is left", x.hours(1) + x.drawn(1, 1), 0);
        Bound.within("so the bow is the latest", x.undo(), 7);
        Bound.within("it is undone", x.now(5), 0);
    }

    // ---- promises 15 to 18

    private static void ways() {
        way();
        wayAt();
        bowsTo();
        firm();
    }

    private static final int[][] NOWHERE = {{0, 4, 0}, {0, 0, 3}, {0, -1, 0}, {0, 0, -1}, {0, 8, 0}, {0, 0, 8}, {0, MIN, 0},
        {0, MAX, 0}, {0, 0, MIN}, {0, 0, MAX}, {3, 0, 0}, {-1, 0, 0}, {6, 0, 0}, {MIN, 0, 0}, {MAX, 0, 0}};

    private static void way() {
        Bound.of("Promise 15", "how many steps (0: he is there); NONE: there is none, he has fallen, no such ones");
        IceManners x = three();
        Bound.within("he is there", x.way(0, 0, 0), 0);
        Bound.within("1", x.way(0, 1, 0), 1);
        Bound.within("to the last cell", x.way(0, 3, 2), 5);
        for (int[] n : NOWHERE) {
            Bound.beyond("way(" + n[0] + ", " + n[1] + ", " + n[2] + ")", x.way(n[0], n[1], n[2]), -1);
        }
        x.swear(0);
        Bound.beyond("he has fallen, even to where he fell", x.way(0, 0, 0), -1);
        Bound.beyond("there is none to bare ice", x.way(1, 0, 0), -1);
    }

    private static void wayAt() {
        Bound.of("Promise 16", "The SIDE of the k-th step (from 0) by the latest way() that was not NONE; NONE: none such, or ahead of any");
        IceManners x = three();
        Bound.beyond("ahead of any", x.wayAt(0), -1);
        Bound.beyond("a way() of NONE", x.way(0, 4, 0), -1);
        Bound.beyond("ahead of any that was not", x.wayAt(0), -1);
        x.way(0, 1, 2);
        Bound.within("the first", x.wayAt(0), 0);
        Bound.within("the last", x.wayAt(2), 1);
        for (int k : new int[] {3, -1, 64, MIN, MAX}) {
            Bound.beyond("wayAt(" + k + ")", x.wayAt(k), -1);
        }
        x.way(0, 0, 3);
        Bound.within("a way() of NONE leaves it", x.wayAt(2), 1);
        x.way(0, 0, 0);
        Bound.beyond("a way of no steps", x.wayAt(0), -1);
        x.way(2, 3, 0);
        Bound.within("of another person", x.wayAt(1), 3);
        Bound.beyond("a shorter way", x.wayAt(2), -1);
        x.go(2, 3);
        Check.lake(x, "lake 2 2 2;");
        Bound.within("it stays as it was told", x.wayAt(1), 3);
    }

    private static void bowsTo() {
        Bound.of("Promise 17", "BOWS of a PERSON to a cell: how much ICE; NONE: with none, he has fallen, no such ones");
        IceManners x = three();
        Bound.within("he is there", x.bows(0, 0, 0), 0);
        Bound.within("to the last cell", x.bows(0, 3, 2), 0);
        for (int[] n : NOWHERE) {
            Bound.beyond("bows(" + n[0] + ", " + n[1] + ", " + n[2] + ")", x.bows(n[0], n[1], n[2]), -1);
        }
        x.swear(0);
        Bound.within("1 to bare ice", x.bows(1, 0, 0), 1);
        Bound.beyond("he has fallen, even to where he fell", x.bows(0, 0, 0), -1);
        String full = "lake 2 2 0;ice 0 0 9;ice 1 1 9;person a 0 0 5 0;person b 1 1 5 0;person c 1 1 ";
        Bound.beyond("with none: 5, 5 and 1", Check.onLake(full + "1 0;").bows(0, 1, 1), -1);
        Bound.within("the most: all but where he is", Check.onLake("lake 8 2 0;ice 0 0 5;person a 0 0 5 0;").bows(0, 7, 1), 40);
    }

    private static void firm() {
        Bound.of("Promise 18", "FIRM of a PERSON to a cell; NONE: there is no WAY, he has fallen, no such ones");
        IceManners x = three();
        Bound.within("he is there", x.firm(0, 0, 0), 5);
        Bound.within("to the last cell", x.firm(0, 3, 2), 5);
        for (int[] n : NOWHERE) {
            Bound.beyond("firm(" + n[0] + ", " + n[1] + ", " + n[2] + ")", x.firm(n[0], n[1], n[2]), -1);
        }
        x.swear(0);
        Bound.beyond("there is no WAY to bare ice", x.firm(1, 0, 0), -1);
        Bound.beyond("he has fallen, even to where he fell", x.firm(0, 0, 0), -1);
        Bound.within("the thinnest that bears 1", Check.onLake("lake 2 2 1;person a 0 0 1 0;").firm(0, 1, 1), 1);
        Bound.within("the thickest", Check.onLake("lake 2 2 9;ice 0 0 1;person a 0 0 1 0;").firm(0, 1, 1), 9);
    }

    // ---- promises 19 to 24, 28, 29

    private static void foresight() {
        swearsIn();
        fallsIn();
        fair();
        swore();
        ask();
        stands();
        drawn();
        odds();
    }

    private static void swearsIn() {
        Bound.of("Promise 19", "HOURS (1 and on); NONE: not in 99, or by HOUR 400, no such one");
        String lake = "lake 4 2 9;cross 3;rude 1 0;frost 30;person a 0 0 1 0;person b 3 0 1 2;person c 2 1 1 2;";
        IceManners x = Check.onLake(lake);
        Bound.beyond("nobody is near", x.swears(0), -1);
        x.go(2, 3);
        Bound.within("in the first", x.swears(1), 1);
        Bound.beyond("not in 99", x.swears(0), -1);
        for (int p : notOf(3)) {
            Bound.beyond("person " + p, x.swears(p), -1);
        }
        String apart = "lake 8 2 9;cross 3;rude 1 0;frost 30;person a 0 0 1 0;person b 2 0 1 0;";
        x = atHour(397, apart);
        x.go(1, 2);
        Bound.within("3 HOURS of 3", x.swears(0), 3);
        x = atHour(398, apart);
        x.go(1, 2);
        Bound.beyond("3 HOURS of 2", x.swears(0), -1);
        x = atHour(400, apart);
        x.go(1, 2);
        Bound.beyond("no HOUR is left", x.swears(0), -1);
        x = Check.onLake("rude 9 0;cross 2;person a 0 0 1 8;");
        x.swear(0);
        Bound.beyond("he has fallen", x.swears(0), -1);
    }

    private static void fallsIn() {
        Bound.of("Promise 20", "HOURS (0: he has); NONE: not in 99, or by HOUR 400, no such one");
        IceManners x = Check.onLake("lake 2 2 9;rude 2 0;cross 7;frost 4;person a 0 0 4 5;person b 1 0 3 5;");
        Bound.beyond("behind 100", x.falls(0), -1);
        x.hours(1);
        Bound.within("behind 99", x.falls(0), 99);
        x.hours(60);
        x.hours(38);
        Bound.within("behind 1", x.falls(0), 1);
        Bound.within("not yet", x.now(1), 0);
        x.hours(1);
        Bound.within("he has", x.falls(0), 0);
        Bound.within("he has", x.now(1), 1);
        for (int p : notOf(2)) {
            Bound.beyond("person " + p, x.falls(p), -1);
        }
        String apart = "lake 8 2 9;cross 3;rude 9 0;frost 30;person a 0 0 1 0;person b 2 0 1 0;";
        x = atHour(397, apart);
        x.go(1, 2);
        Bound.within("3 HOURS of 3", x.falls(0), 3);
        x = atHour(398, apart);
        x.go(1, 2);
        Bound.beyond("3 HOURS of 2", x.falls(0), -1);
        x = atHour(400, apart);
        Bound.beyond("no HOUR is left", x.falls(0), -1);
        x.swear(0);
        Bound.within("he has, in HOUR 400", x.falls(0), 0);
    }

    private static void fair() {
        Bound.of("Promise 21", "FAIR: 8 by Y and X; NONE: there is no such cell");
        Bound.within("the last of the greatest LAKE", Check.onLake("lake 8 8 4;ice 7 7 5;person a 0 0 4 0;person b 1 0 1 0;").fair(), 63);
        Bound.within("8 by Y, be it as small as it may", Check.onLake("lake 2 2 4;ice 1 1 5;person a 0 0 4 0;person b 1 0 1 0;").fair(), 9);
        Bound.beyond("none bears 5", Check.onLake("lake 2 2 4;person a 0 0 4 0;person b 1 0 1 0;").fair(), -1);
        Bound.beyond("none could bear 10", Check.onLake("lake 2 2 9;person a 0 0 5 0;person b 1 0 5 0;").fair(), -1);
        Bound.within("nobody", new IceManners().fair(), 0);
    }

    private static void swore() {
        Bound.of("Promise 22", "SWORE: PERSONS, as bits (who has fallen can not); NONE: not as told");
        IceManners x = Check.onLake("lake 4 2 5;rude 9 0;" + "person a 0 0 1 0;person b 0 0 1 0;person c 1 0 1 0;");
        Bound.within("a and b", Check.swore(x, 0, 0, 0), 3);
        Bound.within("nobody", Check.swore(x, 0, 0, 1), 0);
        Bound.beyond("no such cell", Check.swore(x, 4, 0, 5), -1);
        Bound.beyond("no triple", Check.swore(x), -1);
        x.swear(0);
        Bound.within("both have fallen: c", Check.swore(x, 0, 0, 0), 4);
        x.swear(2);
        Bound.beyond("who has fallen can not", Check.swore(x, 0, 0, 0), 0);
        Bound.within("no PERSONS", Check.swore(new IceManners(), 4, 4, 5), 0);
        Bound.beyond("no PERSONS, no such cell", Check.swore(new IceManners(), 5, 4, 5), -1);
        x = Check.onLake(six());
        Bound.within("the sixth", Check.swore(x, 4, 1, 3, 3, 0, 5), 32);
    }

    private static void ask() {
        Bound.of("Promise 23", "ASK by the latest swore() above 0: 8 by Y and X; NONE ahead of any");
        IceManners x = Check.onLake("lake 8 8 5;ice 0 7 0;rude 9 0;person a 7 7 1 0;person b 7 6 1 0;");
        Bound.beyond("ahead of any", x.ask(), -1);
        Check.swore(x, 7, 7, 1);
        Bound.beyond("a swore() of 0", x.ask(), -1);
        Check.swore(x);
        Bound.beyond("a swore() of NONE", x.ask(), -1);
        Bound.within("both", Check.swore(x, 0, 7, 0), 3);
        Bound.within("7 6 parts them first", x.ask(), 8 * 6 + 7);
        Check.swore(x, 7, 7, 1);
        Bound.beyond("0 leaves it", x.ask(), 8 * 6 + 7);
        Check.swore(x, 8, 0, 0);
        Bound.beyond("NONE leaves it", x.ask(), 8 * 6 + 7);
        Bound.within("a", Check.swore(x, 7, 7, 0), 1);
        Bound.within("one is parted from nobody", x.ask(), 0);
        x = Check.onLake("lake 8 8 5;rude 9 0;person a 7 7 1 0;person b 7 7 1 0;person c 0 7 1 0;");
        Check.swore(x, 0, 0, 5);
        Bound.within("the first of two cells that leave two", x.ask(), 8 * 7);
    }

    private static void stands() {
        Bound.of("Promise 24", "how often, without the one by which he would FALL; NONE: he has fallen, no such one");
        IceManners x = Check.onLake("hollow 1;rude 9 0;person a 0 0 5 0;person b 1 0 1 0;");
        Bound.within("once", x.stands(0), 1);
        x.praise(1, 0);
        Bound.within("the next is the one", x.stands(0), 0);
        Bound.within("not yet", x.now(1), 0);
        x.praise(1, 0);
        Bound.beyond("he has fallen", x.stands(0), -1);
        for (int p : notOf(2)) {
            Bound.beyond("person " + p, x.stands(p), -1);
        }
        Bound.within("the most there can be", Check.onLake("hollow 9;ice 0 0 9;person a 0 0 1 0;").stands(0), 17);
        x = Check.onLake("hollow 1;ice 0 0 9;person a 0 0 1 0;person b 0 0 1 0;");
        x.praise(0, 1);
        x.praise(0, 1);
        x.praise(0, 1);
        Bound.within("hollow long ago: 2 on 7", x.stands(1), 5);
        Bound.within("who was not praised: 1 and 5", x.stands(0), 6);
    }

    private static void drawn() {
        Bound.of("Promise 28", "n (1 to 60) HOURS DRAWN by a seed: how many went by; NONE: not as told");
        IceManners x = three();
        Bound.within("1", x.drawn(1, 0), 1);
        Bound.within("60", x.drawn(60, MIN), 60);
        String before = Check.seen(x);
        for (int n : new int[] {0, 61, -1, MIN, MAX}) {
            Bound.beyond(n + " hours", x.drawn(n, 1), -1);
        }
        Bound.beyond("all stays", before.equals(Check.seen(x)), true);
        Bound.within("without PERSONS", new IceManners().drawn(60, MAX), 60);
        x = atHour(399, "person a 0 0 1 0;");
        Bound.within("as many as are left", x.drawn(60, -1), 1);
        before = Check.seen(x);
        for (int seed = 0; seed < 9; seed++) {
            Bound.beyond("all are over", x.drawn(1, seed), 0);
        }
        Bound.beyond("nobody does anything", before.equals(Check.seen(x)), true);
        Bound.beyond("not as told all the same", x.drawn(61, 1), -1);
    }

    private static void odds() {
        Bound.of("Promise 29", "Of n (1 to 30) seeds x, x and 1, .. by how many a PERSON has not fallen behind 20 HOURS DRAWN from now on; "
            + "NONE: no such ones");
        IceManners x = Check.onLake("lake 3 3 3;rude 2 1;cross 4;frost 9;person a 1 1 1 0;person b 2 1 2 3;person c 0 0 1 8;");
        x.image(0);
        for (int first : new int[] {0, MAX - 5, MIN, -10}) {
            int safe = 0;
            for (int k = 0; k < 30; k++) {
                x.restore(0);
                x.drawn(20, first + k);
                safe += 1 - x.person(1, 4);
                if (k == 0) {
                    x.restore(0);
                    Bound.within("one seed", x.odds(1, 1, first), safe);
                }
            }
            x.restore(0);
            Bound.within("30 seeds from " + first + ", wrapping", x.odds(1, 30, first), safe);
        }
        for (int n : new int[] {0, 31, -1, MIN, MAX}) {
            Bound.beyond(n + " seeds", x.odds(0, n, 1), -1);
        }
        for (int p : notOf(3)) {
            Bound.beyond("person " + p, x.odds(p, 1, 1), -1);
        }
        twentyHours();
        fallenAlready();
    }

    /** He who falls in the 20th HOUR has fallen; he who falls in the 21st has not. */
    private static void twentyHours() {
        IceManners x = Check.onLake("lake 8 8 9;rude 9 0;cross 9;frost 30;person a 3 3 1 0;");
        int by20 = 0;
        int by21 = 0;
        for (int seed = 0; seed < 400 && (by20 == 0 || by21 == 0); seed++) {
            x = Check.onLake("lake 8 8 9;rude 9 0;cross 9;frost 30;person a 3 3 1 0;");
            x.drawn(19, seed);
            boolean before = x.now(1) == 1;
            x.undo();
            x.drawn(20, seed);
            boolean then = x.now(1) == 1;
            x.undo();
            x.drawn(21, seed);
            boolean after = x.now(1) == 1;
            x.undo();
            if (!before && then) {
                by20++;
                Bound.within("fell in the 20th", x.odds(0, 1, seed), 0);
            } else if (!then && after) {
                by21++;
                Bound.beyond("fell in the 21st", x.odds(0, 1, seed), 1);
            }
        }
        Check.due("both were found", by20 > 0 && by21 > 0, true);
    }

    private static void fallenAlready() {
        IceManners x = Check.onLake("rude 9 0;person a 0 0 1 0;person b 4 4 1 0;");
        x.swear(0);
        Bound.within("he has fallen already", x.odds(0, 30, 1), 0);
        x = atHour(400, "person a 0 0 1 0;");
        Bound.beyond("no HOUR is left", x.odds(0, 30, 1), 30);
    }

    // ---- promises 26, 27

    private static void told() {
        line();
        byteAt();
    }

    private static void line() {
        Bound.of("Promise 26", "LINE of a PERSON: how many bytes; NONE: no such one");
        IceManners x = Check.onLake("lake 8 8 9;rude 9 0;person abcdefg 7 7 1 0;person b 0 0 1 0;");
        Bound.within("abcdefg at 7 7 on 9", x.line(0), 19);
        Bound.within("b at 0 0 on 9", x.line(1), 13);
        x.bow(0);
        Bound.within("the longest: abcdefg at 7 7 on 9 bowed", x.line(0), 25);
        x.swear(1);
        Bound.within("the shortest: b fell", x.line(1), 6);
        for (int p : notOf(2)) {
            Bound.beyond("person " + p, x.line(p), -1);
        }
        Bound.beyond("nobody's", new IceManners().line(0), -1);
    }

    private static void byteAt() {
        Bound.of("Promise 27", "Byte i of the latest LINE; NONE: none such");
        IceManners x = Check.onLake("lake 8 8 9;person abcdefg 7 6 1 0;person z 0 0 1 0;");
        Bound.beyond("ahead of any", x.byteAt(0), -1);
        x.line(2);
        Bound.beyond("ahead of any but NONE", x.byteAt(0), -1);
        x.line(0);
        Bound.within("the first", x.byteAt(0), 'a');
        Bound.within("the last of the NAME", x.byteAt(6), 'g');
        Bound.within("a blank", x.byteAt(12), ' ');
        Bound.within("the last", x.byteAt(18), '9');
        for (int i : new int[] {19, -1, 100, MIN, MAX}) {
            Bound.beyond("byteAt(" + i + ")", x.byteAt(i), -1);
        }
        x.line(-1);
        Bound.within("NONE leaves it", x.byteAt(18), '9');
        x.line(1);
        Bound.within("of another", x.byteAt(12), '9');
        Bound.beyond("a shorter one", x.byteAt(13), -1);
    }

    // ---- promises 30 to 33

    private static void texts() {
        lives();
        bookPlace();
        wrongLine();
        livedAsFar();
        toldWhat();
        sentencePlace();
        said();
    }

    private static void lives() {
        Bound.of("Promise 30", "all staying as it is (lives 0), or lived as far as it is not WRONG (1)");
        IceManners x = three();
        String before = Check.seen(x);
        Bound.within("0", Check.book(x, "a bows;hour 3;b east;", 0), -1);
        Bound.within("all stays", before.equals(Check.seen(x)), true);
        Bound.within("1", Check.book(x, "a bows;hour 3;b east;", 1), -1);
        Bound.within("HOUR, bows, X", x.now(0) * 100 + x.now(5) * 10 + x.person(1, 0), 312);
        Check.tape(x, "a bows;");
        before = Check.seen(x);
        for (int lives : new int[] {-1, 2, MIN, MAX}) {
            Bound.beyond("lives " + lives, x.book(lives), -1000);
        }
        Bound.beyond("the tape stays", x.count(8), 7);
        Bound.beyond("all stays", before.equals(Check.seen(x)), true);
        Bound.within("it is a BOOK still", x.book(0), -1);
    }

    private static void bookPlace() {
        Bound.of("Promise 30", "NONE: none; -2 less the place of a FAULT; -1000: another lives (the tape stays)");
        IceManners x = three();
        Bound.within("of no LINE none is WRONG", Check.book(x, "", 1), -1);
        Bound.bookBeyond(x, 1, "^;");
        Bound.bookBeyond(x, 1, " ^;");
        Bound.bookBeyond(x, 1, "a bows;b bows;c^;");
        Bound.bookBeyond(x, 2, "a bows;b bows;hour ^0;");
        Bound.bookBeyond(x, 1, Check.repeat(" ", 400) + "^ ");
        Bound.beyond("nothing was lived", x.now(5), 0);
        Bound.beyond("nothing is kept", x.undo(), -1);
    }

    private static void wrongLine() {
        Bound.of("Promise 30", "the LINE that is WRONG; NONE: none");
        IceManners x = three();
        Bound.within("the first", Check.book(x, "a north;a bows;", 0), 0);
        Bound.within("the second", Check.book(x, "a bows;a bows;", 0), 1);
        Bound.within("the last of 40", Check.book(x, Check.repeat("hour 1;", 39) + "a north;", 0), 39);
        Bound.beyond("none of 40", Check.book(x, Check.repeat("hour 1;", 40), 0), -1);
        Bound.within("the first of two WRONG ones", Check.book(x, "b bows;a north;b bows;", 0), 1);
    }

    private static void livedAsFar() {
        Bound.of("Promise 30", "lived as far as it is not WRONG (1)");
        IceManners x = three();
        String first = Check.seen(x);
        Bound.beyond("the first is WRONG", Check.book(x, "a north;b bows;", 1), 0);
        Bound.beyond("none was lived", first.equals(Check.seen(x)), true);
        Bound.within("the third is", Check.book(x, "a bows;b bows;a north;c bows;", 1), 2);
        Bound.within("two were lived", x.now(2), 3);
        Bound.within("as one act", x.undo(), 0);
        Bound.within("it is undone", first.equals(Check.seen(x)), true);
        x = atHour(390, "person a 0 0 1 0;");
        Bound.beyond("11 HOURS of 10: none goes by", Check.book(x, "a bows;hour 11;", 1), 1);
        Bound.beyond("HOUR", x.now(0), 390);
        Bound.within("10 of 10", Check.book(x, "hour 10;", 1), -1);
        Bound.within("HOUR", x.now(0), 400);
    }

    private static void why(String book, int line, int why) {
        IceManners x = Check.onLake("lake 3 3 2;ice 1 0 0;rude 9 0;cross 9;frost 30;person a 0 0 1 0;person b 0 1 1 0;person c 2 2 1 0;");
        Bound.within("book '" + book + "'", Check.book(x, book, 0), line);
        Bound.within("why of '" + book + "'", x.told(0), why);
        Bound.within("LINES that are not of '" + book + "'", x.told(1), line);
    }

    private static void toldWhat() {
        Bound.of("Promise 31", "0 why it was WRONG (0: it was not; 1 to 3 as for going, 11, 12 bowing, 21 to 23 praising, 31 swearing; "
            + "41: fewer HOURS are left), 1 LINES that are not, 2 the HOUR then, 3 who has fallen then, as bits. NONE: another what, or ahead of any");
        why("a swears;a south;", 1, 1);
        why("a north;", 0, 2);
        why("a east;", 0, 3);
        why("b swears;b bows;", 1, 11);
        why("b bows;b bows;", 1, 12);
        why("c praises c;", 0, 21);
        why("b swears;a praises b;", 1, 22);
        why("a praises c;", 0, 23);
        why("b swears;a bows;b swears;", 2, 31);
        why("hour 60;hour 60;hour 60;hour 60;hour 60;hour 60;hour 41;", 6, 41);
        why("hour 60;hour 60;hour 60;hour 60;hour 60;hour 60;hour 40;hour 1;", 7, 41);
        IceManners x = three();
        Bound.beyond("ahead of any", x.told(0), -1);
        Check.book(x, "a bows;", 0);
        Bound.within("the last what", x.told(3), 0);
        Bound.beyond("another what", x.told(4), -1);
        toldOfLatest();
    }

    private static void toldOfLatest() {
        Bound.of("Promise 31", "Of the latest book() that had no FAULT (and was not -1000)");
        IceManners x = three();
        for (int what = -1; what < 5; what++) {
            Bound.beyond("ahead of any", x.told(what), -1);
        }
        Check.book(x, "a;", 0);
        x.book(2);
        Bound.beyond("ahead of any but a FAULT and -1000", x.told(0), -1);
        Check.book(x, "hour 2;c swears;a bows;a bows;", 0);
        int[] want = {12, 3, 2, 4};
        for (int k = 0; k < 3; k++) {
            for (int what = 0; what < 4; what++) {
                Bound.within("told(" + what + ")", x.told(what), want[what]);
            }
            // of these none is a latest book() that had no FAULT
            Check.book(x, k == 0 ? "a;" : "b swears;", k == 0 ? 0 : 3);
        }
        for (int what : new int[] {-1, 4, 5, MIN, MAX}) {
            Bound.beyond("told(" + what + ")", x.told(what), -1);
        }
        Check.book(x, "", 1);
        Bound.within("it was not", x.told(0) * 1000 + x.told(1) * 100 + x.told(2) * 10 + x.told(3), 0);
    }

    private static void sentencePlace() {
        Bound.of("Promise 32", "how many ONES (each not, bracket and other one); -1 less the place of a FAULT: it stays");
        IceManners x = three();
        Bound.sentenceWithin(x, "fallen", 1, 0);
        Bound.sentenceWithin(x, "not fallen", 2, 7);
        Bound.sentenceWithin(x, "(fallen)", 2, 0);
        Bound.sentenceWithin(x, "not(fallen or bowed)", 4, 7);
        Bound.sentenceWithin(x, "number=1", 1, 2);
        Bound.sentenceBeyond(x, 1, "^;");
        Bound.sentenceBeyond(x, 1, "number=2 and ^");
        Bound.sentenceBeyond(x, 3, "number=2 or by ^d");
        Bound.beyond("it stays", Check.saidOf(x), 2);
        Bound.sentenceBeyond(new IceManners(), 3, "by ^a");
    }

    private static void said() {
        Bound.of("Promise 33", "how many (k NONE), or the k-th. NONE: there is no SENTENCE, none such");
        IceManners x = three();
        for (int k = -2; k < 4; k++) {
            Bound.beyond("there is no SENTENCE", x.said(k), -1);
        }
        Check.sentence(x, "number = 0 or number = 2");
        Bound.within("how many", x.said(-1), 2);
        Bound.within("the first", x.said(0), 0);
        Bound.within("the last", x.said(1), 2);
        for (int k : new int[] {2, 3, -2, MIN, MAX}) {
            Bound.beyond("said(" + k + ")", x.said(k), -1);
        }
        Check.sentence(x, "fallen");
        Bound.within("of nobody", x.said(-1), 0);
        Bound.beyond("not of the first", x.said(0), -1);
        x.swear(2);
        Bound.within("it is judged by what is so now", x.said(0), 2);
        Check.lake(x, "person a 0 0 1 0;");
        Bound.beyond("a new LAKE has none", x.said(-1), -1);
    }

    // ---- promises 34, 35

    private static void kept() {
        images();
        restores();
        extremes();
    }

    private static void images() {
        Bound.of("Promise 34", "LAKE, all that is so and the SENTENCE are kept in place k (0, 1): true; false: no such one");
        IceManners x = three();
        x.bow(0);
        Check.sentence(x, "bowed");
        Bound.within("0", x.image(0), true);
        String first = Check.seen(x);
        x.hours(1);
        Check.sentence(x, "not bowed");
        Bound.within("1", x.image(1), true);
        String second = Check.seen(x);
        for (int k : new int[] {-1, 2, 3, MIN, MAX}) {
            Bound.beyond("place " + k, x.image(k), false);
        }
        Check.lake(x, "lake 8 8 1;");
        x.restore(0);
        Bound.within("as kept in 0", first.equals(Check.seen(x)), true);
        Bound.within("its SENTENCE", Check.saidOf(x), 1);
        x.restore(1);
        Bound.within("as kept in 1", second.equals(Check.seen(x)), true);
        Bound.within("its SENTENCE", Check.saidOf(x), 7);
        x.swear(2);
        Bound.within("0 is kept anew", x.image(0), true);
        x.restore(1);
        x.restore(0);
        Bound.within("the later one", x.now(1), 4);
        x = three();
        x.praise(0, 1);
        x.image(0);
        x.praise(0, 1);
        x.restore(0);
        Bound.within("how often one was praised", x.person(1, 5), 1);
        Bound.within("and can be yet", x.stands(1), 2 + 4);
    }

    private static void restores() {
        Bound.of("Promise 35", "(the tape, and what other calls told last, stays; nothing can be undone): true; false: no such one, "
            + "or nothing is kept there");
        IceManners x = three();
        for (int k : new int[] {0, 1, -1, 2, 3, MIN, MAX}) {
            Bound.beyond("nothing is kept in " + k, x.restore(k), false);
        }
        x.image(1);
        x.bow(0);
        Bound.beyond("nor in 0 still", x.restore(0), false);
        Bound.beyond("a false leaves all", x.now(5), 1);
        x.way(2, 3, 0);
        x.line(1);
        Check.swore(x, 0, 0, 0);
        Check.book(x, "c bows;c bows;", 0);
        Check.sentence(x, "by d");
        x.feed(1, 2, 3, 4, 5);
        Bound.within("1", x.restore(1), true);
        Bound.within("as kept", x.now(5), 0);
        Bound.within("the tape", x.count(8), 20);
        Bound.within("wayAt()", x.wayAt(1), 3);
        Bound.within("byteAt()", x.byteAt(0), 'b');
        Bound.within("ask()", x.ask(), 0);
        Bound.within("told()", x.told(0), 12);
        Bound.within("fault()", x.fault(), 3);
        Bound.beyond("nothing can be undone", x.undo(), -1);
        x.bow(1);
        x.bow(2);
        for (int k : new int[] {0, -1, 2, MIN, MAX}) {
            Bound.beyond("no " + k, x.restore(k), false);
        }
        Bound.beyond("a false leaves what can be undone", x.undo(), 1);
        Check.lake(x, "lake 2 2 2;");
        Bound.within("behind a new LAKE", x.restore(1), true);
        Bound.within("the LAKE as kept", x.count(0), 4);
    }

    /** Whatever the numbers, no call throws but those of which it is told. */
    private static void extremes() {
        Bound.of("Promise 6", "NoSuchElementException: no such ones");
        int[] numbers = {MIN, MIN + 1, -65, -9, -8, -2, -1, 0, 5, 6, 7, 8, 9, 31, 32, 63, 64, 65, 255, 256, MAX - 1, MAX};
        int thrown = 0;
        for (int a : numbers) {
            for (int b : new int[] {a, 0, -1, MAX}) {
                for (String lake : new String[] {"", "lake 2 2 1;person a 1 1 1 8;", six()}) {
                    IceManners x = new IceManners();
                    Check.lake(x, lake);
                    thrown += throwsAny(x, a, b) + throwsAny(x, b, a);
                }
            }
        }
        Bound.within("what others throw, or these beside it", thrown, 0);
        Bound.beyond("person() throws", Check.personThrows(three(), MIN, MIN), true);
        Bound.beyond("mean() throws", Check.meanThrows(three(), MIN), true);
    }

    private static int throwsAny(IceManners x, int a, int b) {
        try {
            Check.personThrows(x, a, b);
            Check.meanThrows(x, a);
            x.feed(a, b, a, b, a);
            x.end(a);
            x.lake();
            x.swore();
            x.ask();
            x.fair();
            x.cell(a, b, 0);
            x.cell(0, 0, a);
            x.now(a);
            x.go(a, b);
            x.bow(a);
            x.praise(a, b);
            x.swear(a);
            x.hours(a);
            x.way(a, b, 0);
            x.way(0, a, b);
            x.wayAt(a);
            x.bows(a, b, 0);
            x.bows(0, a, b);
            x.firm(a, b, 0);
            x.firm(0, a, b);
            x.swears(a);
            x.falls(a);
            x.stands(a);
            x.line(a);
            x.byteAt(a);
            x.drawn(a, b);
            x.odds(a, b, a);
            x.odds(0, 1, a);
            x.feed(a, b, a, b, a);
            x.book(a);
            x.sentence();
            x.told(a);
            x.said(a);
            x.image(a);
            x.restore(a);
            x.count(a);
            x.undo();
            return 0;
        } catch (RuntimeException e) {
            return 1;
        }
    }
}
