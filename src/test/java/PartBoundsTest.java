/** Each boundary case that the terms' parts 2 and 3 name: what persons do, what hours bring, what is asked. */
public final class PartBoundsTest {
    private static final String PART2 = "Part 2";
    private static final String PART3 = "Part 3";

    public static void main(String[] args) {
        ground();
        acts();
        hours();
        ways();
        foresight();
        guesses();
        draws();
        fractions();
        Bound.finish();
    }

    // ---- what bears, and who falls

    private static void ground() {
        far();
        bears();
        falls();
        cellByCell();
        nowhere();
    }

    private static void far() {
        Bound.of(PART2, "FAR: by X and Y together");
        IceManners x = Check.onLake("person a 2 2 1 0;person b 2 2 1 0;person c 1 2 1 0;person d 2 1 1 0;person e 3 3 1 0;"
            + "person f 4 2 1 0;");
        Bound.within("on one cell", x.praise(0, 1), 0);
        Bound.within("1 by X", x.praise(0, 2), 0);
        Bound.within("1 by Y", x.praise(0, 3), 0);
        Bound.beyond("1 by X and 1 by Y", x.praise(0, 4), 3);
        Bound.beyond("2 by X", x.praise(0, 5), 3);
        Bound.beyond("1 less by X, 1 less by Y", x.praise(2, 3), 3);
    }

    private static void bears() {
        Bound.of(PART2, "A cell BEARS the PERSONS on it, if all their LOADS are not more than its ICE");
        String persons = "person a 0 0 3 0;person b 1 0 2 0;person c 1 0 1 0;";
        Bound.within("3 on 3", Check.onLake("ice 0 1 3;" + persons).go(0, 1), 0);
        Bound.within("2, 1 and 3 on 6", Check.onLake("ice 1 0 6;" + persons).go(0, 0), 0);
        Bound.beyond("3 on 2", Check.onLake("ice 0 1 2;" + persons).go(0, 1), 3);
        Bound.beyond("2, 1 and 3 on 5", Check.onLake(persons).go(0, 0), 3);
        Bound.beyond("1 on 0", Check.onLake("ice 2 0 0;" + persons).go(2, 0), 3);
    }

    private static void falls() {
        Bound.of(PART2, "Whenever ICE goes, all on each cell that does not BEAR them FALL");
        String two = "person a 1 1 2 0;person b 1 1 1 0;";
        IceManners x = Check.onLake("rude 2 0;" + two);
        x.swear(0);
        Bound.within("3 on 3 stand", x.now(1), 0);
        x = Check.onLake("rude 3 0;" + two);
        x.swear(0);
        Bound.beyond("3 on 2: both fall, he who swore, too", x.now(1), 3);
        x = Check.onLake("hollow 1;ice 1 1 4;" + two);
        x.praise(1, 0);
        x.praise(1, 0);
        Bound.within("3 on 3 stand", x.now(1), 0);
        x.praise(1, 0);
        Bound.beyond("3 on 2: both fall, he who praised, too", x.now(1), 3);
    }

    private static void cellByCell() {
        Bound.of(PART2, "(cell by cell; who has fallen is nowhere, has no LOAD, does nothing and is not met any more)");
        IceManners x = Check.onLake("person a 2 2 1 0;person b 1 2 3 0;person c 3 2 3 0;person d 2 1 4 0;person e 2 3 4 0;");
        x.swear(0);
        Bound.within("1 on 3, 3 on 3 beside", x.now(1) & 7, 0);
        Bound.beyond("4 on 3, on two cells", x.now(1), 8 + 16);
    }

    private static void nowhere() {
        Bound.of(PART2, "who has fallen is nowhere, has no LOAD, does nothing and is not met any more");
        IceManners x = Check.onLake("rude 1 0;person a 1 1 5 0;person b 1 2 4 0;person c 1 2 1 0;");
        Bound.within("he is met", x.praise(1, 0), 0);
        Bound.within("his load is on it", x.cell(1, 1, 1), 5);
        Bound.within("another is too much there", x.go(1, 3), 3);
        x.swear(0);
        Bound.within("he fell alone", x.now(1), 1);
        Bound.beyond("he is met no more", x.praise(1, 0), 2);
        Bound.beyond("no load", x.cell(1, 1, 1), 0);
        Bound.beyond("nowhere", x.cell(1, 1, 2), 0);
        Bound.beyond("another is not", x.go(1, 3), 0);
        Bound.beyond("he does not go", x.go(0, 0), 1);
        Bound.beyond("nor bow", x.bow(0), 1);
        Bound.beyond("nor praise", x.praise(0, 1), 2);
        Bound.beyond("nor swear", x.swear(0), 1);
        x.hours(1);
        Bound.within("b met c, who is 1 far", x.person(1, 3), 1);
        Bound.beyond("b met him no more, on one cell", x.person(2, 3), 1);
        Bound.beyond("he met nobody", x.person(0, 3), 0);
    }

    // ---- acts

    private static void acts() {
        goes();
        bows();
        bowedIce();
        bowedTemper();
        praises();
        praisedTemper();
        hollow();
        hollowIce();
        swears();
        reaches();
        noIce();
        calm();
    }

    private static void goes() {
        Bound.of(PART2, "1 he has fallen; 2 there is no cell; 3 that one would not BEAR him besides those on it: he is there");
        IceManners x = Check.onLake("lake 2 2 3;ice 1 0 2;rude 9 0;person a 0 0 3 0;person b 0 1 2 0;person c 1 1 1 0;");
        Bound.beyond("no cell to the west", x.go(0, 2), 2);
        Bound.beyond("no cell to the north", x.go(0, 3), 2);
        Bound.beyond("no cell to the east", x.go(2, 0), 2);
        Bound.beyond("no cell to the south", x.go(2, 1), 2);
        Bound.beyond("3 on 2", x.go(0, 0), 3);
        Bound.beyond("3 and 2 on 3", x.go(0, 1), 3);
        Bound.within("1 and 2 on 3", x.go(2, 2), 0);
        Bound.within("he is there", x.cell(0, 1, 2), 2 + 4);
        Bound.within("and here no more", x.cell(1, 1, 2), 0);
        x.swear(0);
        Bound.beyond("fallen is the least, though there is no cell", x.go(0, 2), 1);
        Bound.beyond("fallen is the least, though it would not bear him", x.go(0, 0), 1);
    }

    private static void bows() {
        Bound.of(PART2, "To BOW: 1 he has fallen; 2 he bowed in this HOUR");
        IceManners x = Check.onLake("rude 9 0;person a 0 0 1 0;person b 4 4 1 0;");
        Bound.within("the first", x.bow(0), 0);
        Bound.beyond("the second", x.bow(0), 2);
        Bound.within("another one's", x.bow(1), 0);
        x.hours(1);
        Bound.within("in the next HOUR", x.bow(0), 0);
        Bound.beyond("and again", x.bow(0), 2);
        x.swear(0);
        Bound.beyond("fallen is the least, though he bowed", x.bow(0), 1);
    }

    private static void bowedIce() {
        Bound.of(PART2, "his cell has 1 ICE more (9 at most)");
        IceManners x = Check.onLake("ice 0 0 8;person a 0 0 1 0;person b 0 0 1 0;");
        x.bow(0);
        Bound.within("8 and 1", x.cell(0, 0, 0), 9);
        Bound.beyond("it can be bowed still", x.bow(1), 0);
        Bound.beyond("9 and 1", x.cell(0, 0, 0), 9);
        Bound.beyond("no other cell", x.now(3), 24 * 5 + 9);
    }

    private static void bowedTemper() {
        Bound.of(PART2, "his TEMPER is 1 less (0 at least). To PRAISE");
        IceManners x = Check.onLake("person a 0 0 1 1;person b 0 0 1 0;person c 0 0 1 8;");
        x.bow(0);
        Bound.within("1 less 1", x.person(0, 3), 0);
        x.bow(2);
        Bound.within("8 less 1", x.person(2, 3), 7);
        x.bow(1);
        Bound.beyond("0 less 1", x.person(1, 3), 0);
    }

    private static void praises() {
        Bound.of(PART2, "1 they are alike; 2 one has fallen; 3 they are FARTHER than 1");
        IceManners x = Check.onLake("rude 9 0;person a 0 0 1 0;person b 1 0 1 0;person c 1 1 1 0;");
        Bound.within("1 far", x.praise(0, 1), 0);
        Bound.within("1 far", x.praise(1, 2), 0);
        Bound.beyond("2 far", x.praise(0, 2), 3);
        Bound.beyond("alike", x.praise(0, 0), 1);
        x.swear(0);
        Bound.beyond("alike is less than fallen", x.praise(0, 0), 1);
        Bound.beyond("he has fallen", x.praise(0, 1), 2);
        Bound.beyond("that one has", x.praise(1, 0), 2);
        Bound.beyond("fallen is less than far", x.praise(0, 2), 2);
        Bound.beyond("fallen is less than far", x.praise(2, 0), 2);
        x.swear(1);
        Bound.beyond("both have", x.praise(1, 0), 2);
    }

    private static void praisedTemper() {
        Bound.of(PART2, "that one's TEMPER is 1 less (0 at least)");
        IceManners x = Check.onLake("hollow 9;person a 0 0 1 4;person b 0 0 1 2;");
        x.praise(0, 1);
        Bound.within("2 less 1", x.person(1, 3), 1);
        x.praise(0, 1);
        Bound.within("1 less 1", x.person(1, 3), 0);
        x.praise(0, 1);
        Bound.beyond("0 less 1", x.person(1, 3), 0);
        Bound.beyond("his own stays", x.person(0, 3), 4);
    }

    private static void hollow() {
        Bound.of(PART2, "if he was praised more often than 'hollow' in this HOUR (this time, too), his cell has 1 ICE less");
        for (int hollow = 1; hollow <= 9; hollow += 4) {
            IceManners x = Check.onLake("hollow " + hollow + ";cross 9;person a 0 0 1 0;person b 1 0 1 0;person c 0 0 1 0;");
            for (int k = 1; k <= hollow; k++) {
                x.praise(k % 2 * 2, 1);
            }
            Bound.within("praised " + hollow + " times", x.now(3), 125);
            x.praise(0, 2);
            Bound.within("another one's praise is his own", x.now(3), 125);
            x.praise(0, 1);
            Bound.beyond("once more", x.cell(1, 0, 0), 4);
            x.praise(0, 1);
            Bound.beyond("and again", x.cell(1, 0, 0), 3);
            Bound.beyond("no other cell", x.now(3), 123);
            x.hours(1);
            x.praise(0, 1);
            Bound.within("the first of the next HOUR", x.cell(1, 0, 0), 3);
        }
    }

    private static void hollowIce() {
        Bound.of(PART2, "his cell has 1 ICE less (0 at least)");
        IceManners x = Check.onLake("lake 2 2 2;hollow 1;person a 0 0 1 0;person b 1 0 1 0;");
        x.praise(0, 1);
        x.praise(0, 1);
        Bound.within("1 on 1", x.cell(1, 0, 0), 1);
        Bound.within("1 on 1", x.now(1), 0);
        x.praise(0, 1);
        Bound.beyond("1 on 0", x.cell(1, 0, 0), 0);
        Bound.beyond("he fell", x.now(1), 2);
        Bound.beyond("he is praised no more", x.praise(0, 1), 2);
        Bound.beyond("so it stays 0", x.cell(1, 0, 0), 0);
    }

    private static void swears() {
        Bound.of(PART2, "To SWEAR: 1 he has fallen");
        IceManners x = Check.onLake("rude 4 0;person a 0 0 1 0;");
        Bound.within("he stands on 1", x.swear(0), 0);
        Bound.within("and falls by the second", x.swear(0), 0);
        Bound.beyond("fallen", x.swear(0), 1);
        Bound.beyond("nothing more", x.now(7), 2);
    }

    private static void reaches() {
        Bound.of(PART2, "each cell at most REACH FAR from him has so much less ICE as 'rude' tells");
        for (int reach = 0; reach <= 3; reach++) {
            IceManners x = Check.onLake("lake 8 8 9;rude 2 " + reach + ";person a 3 4 1 0;person b 0 0 1 0;person c 7 7 1 0;");
            x.swear(0);
            around(x, 3, 4, reach);
            x.undo();
            x.swear(1);
            around(x, 0, 0, reach);
            x.undo();
            x.swear(2);
            around(x, 7, 7, reach);
        }
    }

    private static void around(IceManners x, int px, int py, int reach) {
        for (int cell = 0; cell < 64; cell++) {
            int far = Math.abs(cell % 8 - px) + Math.abs(cell / 8 - py);
            if (far <= reach) {
                Bound.within(far + " far of " + reach, x.cell(cell % 8, cell / 8, 0), 7);
            } else {
                Bound.beyond(far + " far of " + reach, x.cell(cell % 8, cell / 8, 0), 9);
            }
        }
    }

    private static void noIce() {
        Bound.of(PART2, "as 'rude' tells (0 at least)");
        IceManners x = Check.onLake("lake 2 2 9;ice 1 0 4;ice 0 1 3;ice 1 1 2;rude 3 2;person a 0 0 1 0;");
        x.swear(0);
        Bound.within("4 less 3", x.cell(1, 0, 0), 1);
        Bound.within("3 less 3", x.cell(0, 1, 0), 0);
        Bound.beyond("2 less 3", x.cell(1, 1, 0), 0);
        x.swear(0);
        Bound.beyond("0 less 3", x.now(3), 3);
        Bound.beyond("all but his", x.now(4), 3);
    }

    private static void calm() {
        Bound.of(PART2, "his TEMPER is 0");
        IceManners x = Check.onLake("rude 5 0;person a 0 0 1 8;person b 0 0 1 8;person c 4 4 1 8;");
        x.swear(2);
        Bound.within("who swore", x.person(2, 3), 0);
        x.swear(0);
        Bound.within("who swore and fell", x.person(0, 3), 0);
        Bound.beyond("who fell by another: as it was then", x.person(1, 3), 8);
    }

    // ---- hours

    private static void hours() {
        allHours();
        met();
        most9();
        cross();
        personByPerson();
        frost();
        frost9();
        nextHour();
    }

    private static IceManners atHour399(String lake) {
        IceManners x = Check.onLake(lake);
        for (int k = 0; k < 6; k++) {
            x.hours(60);
        }
        x.hours(39);
        return x;
    }

    private static void allHours() {
        Bound.of(PART2, "An HOUR (0 to 399; 400: all are over) goes");
        IceManners x = atHour399("person a 0 0 1 0;");
        Bound.within("HOUR 399", x.now(0), 399);
        Bound.within("goes", x.hours(1), 1);
        Bound.within("400", x.now(0), 400);
        Bound.beyond("all are over", x.hours(1), 0);
        Bound.beyond("it stays", x.now(0), 400);
        Bound.beyond("none is drawn", x.drawn(1, 1), 0);
        Bound.beyond("none is lived", Check.book(x, "hour 1;", 1), 0);
    }

    private static void met() {
        Bound.of(PART2, "his TEMPER is 1 more for each other one who has not fallen and is FAR 1 at most");
        IceManners x = Check.onLake("cross 9;person a 2 2 1 0;person b 2 2 1 0;person c 2 1 1 0;person d 1 2 1 0;person e 4 4 1 3;");
        x.hours(1);
        Bound.within("b, c and d are near a", x.person(0, 3), 3);
        Bound.within("a, c and d are near b", x.person(1, 3), 3);
        Bound.beyond("d is 2 far from c", x.person(2, 3), 2);
        Bound.beyond("c is 2 far from d", x.person(3, 3), 2);
        Bound.beyond("nobody is near e", x.person(4, 3), 3);
    }

    private static void most9() {
        Bound.of(PART2, "(9 at most); if it is as much as 'cross' tells then, or more, he SWEARS");
        IceManners x = Check.onLake("lake 2 2 9;cross 9;rude 1 0;person a 0 0 1 7;person b 0 1 1 0;person c 1 1 1 8;");
        x.hours(1);
        Bound.within("7 and 1", x.person(0, 3), 8);
        Bound.within("0 and 2", x.person(1, 3), 2);
        Bound.beyond("8 and 1 is 9: he swore", x.person(2, 3), 0);
        Bound.beyond("he alone", x.now(7), 1);
        x = Check.onLake("lake 2 2 9;cross 9;rude 1 0;person a 0 0 1 8;person b 0 0 1 0;person c 0 0 1 0;person d 0 0 1 0;");
        x.hours(1);
        Bound.beyond("8 and 3 is 9 at most: he swore once", x.now(7), 1);
        Bound.beyond("and has none left", x.person(0, 3), 0);
    }

    private static void cross() {
        Bound.of(PART2, "if it is as much as 'cross' tells then, or more, he SWEARS");
        for (int cross = 2; cross <= 9; cross++) {
            String lake = "lake 8 8 9;rude 1 0;cross " + cross + ";";
            IceManners x = Check.onLake(lake + "person a 0 0 1 " + (cross - 2) + ";person b 0 1 1 0;");
            x.hours(1);
            Bound.within("1 less than cross " + cross, x.person(0, 3), cross - 1);
            Bound.within("nobody swore", x.now(7), 0);
            x = Check.onLake(lake + "person a 0 0 1 " + (cross - 1) + ";person b 0 1 1 0;");
            x.hours(1);
            Bound.beyond("as much as cross " + cross, x.person(0, 3), 0);
            Bound.beyond("he swore", x.now(7), 1);
            x = Check.onLake(lake + "person a 0 0 1 8;");
            x.hours(1);
            Bound.beyond("8 of cross " + cross + ", from the first, nobody near", x.now(7), cross <= 8 ? 1 : 0);
        }
    }

    private static void personByPerson() {
        Bound.of(PART2, "PERSON by PERSON who has not fallen then");
        // b sinks by a's oath ahead of his own turn: he neither grows cross nor swears, nor does c meet him
        IceManners x = Check.onLake("lake 4 2 5;cross 4;rude 2 1;person a 0 0 1 3;person b 1 0 4 3;person c 2 0 1 2;");
        x.hours(1);
        Bound.within("a swore", x.person(0, 3), 0);
        Bound.within("b fell", x.now(1), 2);
        Bound.beyond("b's temper as it was then", x.person(1, 3), 3);
        Bound.beyond("b swore not", x.now(7), 1);
        Bound.beyond("c met nobody", x.person(2, 3), 2);
        // the other way round b is met by those ahead of him, and swears when it is his turn
        x = Check.onLake("lake 4 2 5;cross 4;rude 2 1;person c 2 0 1 2;person b 1 0 4 3;person a 0 0 1 3;");
        x.hours(1);
        Bound.within("c met b", x.person(0, 3), 3);
        Bound.within("b swore and fell", x.person(1, 3), 0);
        Bound.beyond("a met nobody", x.person(2, 3), 3);
        Bound.beyond("one oath", x.now(7), 1);
    }

    private static void frost() {
        Bound.of(PART2, "if the number of the next HOUR is divided by 'frost', each cell has 1 ICE more");
        for (int frost = 1; frost <= 30; frost++) {
            IceManners x = Check.onLake("lake 2 2 0;ice 1 1 3;frost " + frost + ";");
            if (frost > 1) {
                x.hours(frost - 1);
                Bound.beyond("HOUR " + (frost - 1), x.now(3), 3);
            }
            x.hours(1);
            Bound.within("HOUR " + frost, x.now(3), 7);
            if (frost > 1) {
                x.hours(frost - 1);
                Bound.beyond("HOUR " + (2 * frost - 1), x.now(3), 7);
            }
            x.hours(1);
            Bound.within("HOUR " + 2 * frost, x.now(3), 11);
        }
    }

    private static void frost9() {
        Bound.of(PART2, "each cell has 1 ICE more (9 at most)");
        IceManners x = Check.onLake("lake 2 2 8;ice 1 1 9;ice 0 1 0;frost 1;");
        x.hours(1);
        Bound.within("8 and 1", x.cell(0, 0, 0), 9);
        Bound.within("0 and 1", x.cell(0, 1, 0), 1);
        Bound.beyond("9 and 1", x.cell(1, 1, 0), 9);
        x.hours(20);
        Bound.beyond("9 and 20", x.now(3), 36);
    }

    private static void nextHour() {
        Bound.of(PART2, "It is the next HOUR; nobody has bowed or was praised in it");
        IceManners x = Check.onLake("rude 9 0;person a 0 0 1 0;person b 1 0 1 0;");
        x.bow(0);
        x.bow(1);
        x.praise(0, 1);
        x.praise(1, 0);
        x.swear(1);
        Bound.within("who bowed, be he fallen", x.now(2), 3);
        Bound.within("praised, be he fallen", x.person(1, 5), 1);
        Bound.within("praised", x.person(0, 5), 1);
        x.hours(1);
        Bound.beyond("who bowed", x.now(2), 0);
        Bound.beyond("praised, be he fallen", x.person(1, 5), 0);
        Bound.beyond("praised", x.person(0, 5), 0);
        Bound.beyond("so far it stays", x.now(5) + 10 * x.now(6), 22);
    }

    // ---- ways

    private static void ways() {
        fewest();
        firstOfLike();
        leastIce();
        nineInEach();
        thinnest();
        start();
    }

    private static String sides(IceManners x, int steps) {
        StringBuilder all = new StringBuilder();
        for (int k = 0; k < steps; k++) {
            all.append(x.wayAt(k));
        }
        return all.toString();
    }

    /** Four rows of cells with 1 ICE, one behind the other: 35 steps from the first cell to that ahead of the last row's. */
    private static String winding() {
        StringBuilder lake = new StringBuilder("lake 8 8 1;");
        for (int y = 1; y < 8; y += 2) {
            for (int x = 0; x < 7; x++) {
                lake.append("ice ").append(y % 4 == 1 ? x : x + 1).append(' ').append(y).append(" 0;");
            }
        }
        return lake.toString();
    }

    private static void fewest() {
        Bound.of(PART3, "the fewest steps, each of which he can GO, others staying as they are");
        String lake = "lake 3 2 5;ice 1 0 4;person a 0 0 2 0;person b 1 0 ";
        Bound.within("2 and 2 on 4: straight", Check.onLake(lake + "2 0;").way(0, 2, 0), 2);
        Bound.beyond("2 and 3 on 4: round", Check.onLake(lake + "3 0;").way(0, 2, 0), 4);
        Bound.beyond("nor can he stop there", Check.onLake(lake + "3 0;").way(0, 1, 0), -1);
        IceManners x = Check.onLake(winding() + "person a 0 0 1 0;");
        Bound.within("the longest", x.way(0, 0, 7), 35);
        Bound.within("its last step", x.wayAt(34), 1);
        Bound.beyond("no further step", x.wayAt(35), -1);
    }

    private static void firstOfLike() {
        Bound.of(PART3, "of like ones the first: SIDE by SIDE the least");
        int[][] goals = {{6, 6}, {2, 6}, {2, 2}, {6, 2}, {4, 2}};
        String[] want = {"0011", "1122", "2233", "0033", "33"};
        IceManners x = Check.onLake("lake 8 8 5;person a 4 4 1 0;");
        for (int k = 0; k < goals.length; k++) {
            int steps = x.way(0, goals[k][0], goals[k][1]);
            Bound.within("sides", sides(x, steps).equals(want[k]), true);
        }
        x = Check.onLake("lake 8 8 5;ice 6 4 0;person a 4 4 1 0;");
        Bound.beyond("0011 cannot be gone", sides(x, x.way(0, 6, 6)).equals("0101"), true);
        x = Check.onLake("lake 8 8 5;ice 6 4 0;ice 5 5 0;person a 4 4 1 0;");
        Bound.beyond("nor 01 at all", sides(x, x.way(0, 6, 6)).equals("1100"), true);
    }

    private static void leastIce() {
        Bound.of(PART3, "the least ICE in all that must come to cells (9 at most in each) so that there is such a WAY");
        String lake = "lake 3 2 0;ice 0 0 3;ice 2 0 3;";
        Bound.within("3 on 3 stands, the midst lacks 3", Check.onLake(lake + "person a 0 0 3 0;").bows(0, 2, 0), 3);
        Bound.within("as much as it bears", Check.onLake(lake + "ice 1 0 3;person a 0 0 3 0;").bows(0, 2, 0), 0);
        Bound.beyond("1 less", Check.onLake(lake + "ice 1 0 2;person a 0 0 3 0;").bows(0, 2, 0), 1);
        String round = lake + "ice 1 0 1;ice 0 1 3;ice 2 1 3;";
        Bound.within("straight 2, round 2", Check.onLake(round + "ice 1 1 1;person a 0 0 3 0;").bows(0, 2, 0), 2);
        Bound.beyond("round 1", Check.onLake(round + "ice 1 1 2;person a 0 0 3 0;").bows(0, 2, 0), 1);
        Bound.beyond("round 0", Check.onLake(round + "ice 1 1 3;person a 0 0 3 0;").bows(0, 2, 0), 0);
        IceManners x = Check.onLake(winding() + "person a 0 0 1 0;person b 0 7 1 0;");
        Bound.beyond("1 to a bare cell beside the rows", x.bows(0, 0, 1), 1);
        Bound.within("there is a WAY along the rows, all but b's cell", x.bows(0, 0, 6), 0);
        Bound.within("and back, all but a's", x.bows(1, 7, 0), 0);
        Bound.beyond("to b himself", x.bows(0, 0, 7), 1);
        Bound.beyond("to a himself", x.bows(1, 0, 0), 1);
    }

    private static void nineInEach() {
        Bound.of(PART3, "(9 at most in each)");
        String lake = "lake 2 2 0;ice 0 0 9;ice 0 1 9;ice 1 0 9;ice 1 1 9;person a 0 0 5 0;person b 0 1 ";
        Bound.within("5 and 4", Check.onLake(lake + "4 0;").bows(0, 0, 1), 0);
        Bound.beyond("5 and 5", Check.onLake(lake + "5 0;").bows(0, 0, 1), -1);
        lake = "lake 2 3 0;ice 0 0 5;ice 0 1 6;ice 0 2 5;person a 0 0 5 0;person b 0 1 3 0;person c 0 1 ";
        Bound.within("5, 3 and 1 on 6: 3", Check.onLake(lake + "1 0;").bows(0, 0, 2), 3);
        Bound.beyond("5, 3 and 2 on 6: round by three bare cells", Check.onLake(lake + "2 0;").bows(0, 0, 2), 15);
    }

    private static void thinnest() {
        Bound.of(PART3, "at the thinnest place of some row of steps to it, however many, each of which he can GO");
        String lake = "lake 3 2 9;ice 1 0 4;ice 1 1 ";
        Bound.within("straight 4, round 3", Check.onLake(lake + "3;person a 0 0 1 0;").firm(0, 2, 0), 4);
        Bound.within("straight 4, round 4", Check.onLake(lake + "4;person a 0 0 1 0;").firm(0, 2, 0), 4);
        Bound.beyond("straight 4, round 5", Check.onLake(lake + "5;person a 0 0 1 0;").firm(0, 2, 0), 5);
        Bound.within("round 5, which bears 5", Check.onLake(lake + "5;person a 0 0 5 0;").firm(0, 2, 0), 5);
        Bound.beyond("round 5 does not bear 4 and 2", Check.onLake(lake + "5;person a 0 0 4 0;person b 1 1 2 0;").firm(0, 2, 0), 4);
        IceManners x = Check.onLake(winding() + "person a 0 0 1 0;");
        Bound.within("35 steps", x.firm(0, 0, 7), 1);
        x = Check.onLake(winding() + "person a 0 7 1 0;");
        Bound.within("35 steps back", x.firm(0, 0, 0), 1);
        Bound.beyond("nor straight 4 these 5", Check.onLake(lake + "5;person a 0 0 5 0;person b 1 1 1 0;").firm(0, 2, 0), -1);
    }

    private static void start() {
        Bound.of(PART3, "(the cell where he is is not counted; how thick it is there, if he is there)");
        IceManners x = Check.onLake("lake 3 2 9;ice 0 0 1;person a 0 0 1 0;");
        Bound.within("he is there", x.firm(0, 0, 0), 1);
        Bound.beyond("from there", x.firm(0, 2, 1), 9);
        Bound.beyond("one step", x.firm(0, 1, 0), 9);
    }

    // ---- what would go on

    private static void foresight() {
        behindHours();
        firstTime();
        fair();
        fairNobody();
        fairLike();
    }

    private static void behindHours() {
        Bound.of(PART3, "behind how many HOURS he has, for the first time");
        String lake = "lake 2 2 2;cross 9;rude 2 0;frost 30;person a 0 0 1 ";
        for (int temper = 0; temper <= 8; temper++) {
            IceManners x = Check.onLake(lake + temper + ";person b 0 1 1 0;");
            Bound.within("swears by " + (9 - temper) + " hours", x.swears(0), 9 - temper);
            Bound.within("and falls", x.falls(0), 9 - temper);
            x.hours(9 - temper);
            Bound.within("so he did", x.now(7) * 10 + x.now(1), 11);
            Bound.beyond("he swears no more", x.swears(0), -1);
            Bound.beyond("he has fallen", x.falls(0), 0);
        }
    }

    private static void firstTime() {
        Bound.of(PART3, "All by what would go on, if nothing else is done");
        IceManners x = Check.onLake("lake 2 2 9;cross 3;rude 1 0;frost 30;person a 0 0 1 0;person b 0 1 1 0;");
        Bound.within("the first of many", x.swears(0), 3);
        x.hours(2);
        Bound.within("one is left", x.swears(0), 1);
        x.hours(1);
        Bound.within("and again", x.swears(0), 3);
        Bound.within("he sinks by the ninth", x.falls(0), 3 * 8);
        x.go(1, 0);
        Bound.beyond("something else was done: b went", x.swears(0), -1);
        Bound.beyond("nobody falls then", x.falls(0), -1);
    }

    private static void fair() {
        Bound.of(PART3, "the cell that would BEAR all who have not fallen, whatever is on it now");
        String persons = "person a 0 0 4 0;person b 1 1 2 0;person c 1 1 3 0;";
        Bound.within("9 on 9", Check.onLake("ice 4 4 9;" + persons).fair(), 36);
        Bound.beyond("9 on 8", Check.onLake("ice 4 4 8;" + persons).fair(), -1);
        IceManners x = Check.onLake("ice 4 4 5;ice 0 0 4;rude 9 0;" + persons);
        x.swear(0);
        Bound.within("the fallen have no load: 5 on 5, whatever is on it", x.fair(), 9);
        x = Check.onLake("lake 2 2 2;ice 0 0 4;person a 0 0 4 0;person b 1 1 2 0;person c 1 0 1 0;rude 2 0;");
        x.swear(0);
        Bound.beyond("3 are left on no more than 2", x.fair(), -1);
        x = Check.onLake("ice 1 1 9;" + persons);
        Bound.within("9 on 9, whatever is on it", x.fair(), 9);
    }

    private static void fairNobody() {
        Bound.of(PART3, "nobody is left: the first one");
        IceManners x = Check.onLake("lake 2 2 0;ice 1 1 1;person a 1 1 1 0;");
        Bound.within("one is left", x.fair(), 9);
        x.swear(0);
        Bound.beyond("nobody is, on no ice at all", x.fair(), 0);
        Bound.beyond("nobody ever was", new IceManners().fair(), 0);
    }

    private static void fairLike() {
        Bound.of(PART3, "to which it is least FAR from all of them in all (of like ones the least Y, then X");
        Bound.within("the only one", Check.onLake("lake 8 8 5;person a 6 6 5 0;").fair(), 8 * 6 + 6);
        IceManners x = Check.onLake("lake 8 8 5;person a 3 5 1 0;person b 5 5 1 0;");
        Bound.within("3 5, 4 5 and 5 5 are alike: the least X", x.fair(), 8 * 5 + 3);
        x = Check.onLake("lake 8 8 5;person a 5 3 1 0;person b 5 5 1 0;");
        Bound.within("5 3, 5 4 and 5 5 are alike: the least Y", x.fair(), 8 * 3 + 5);
        x = Check.onLake("lake 8 8 5;person a 5 3 1 0;person b 3 5 1 0;");
        Bound.within("of nine: the least Y ahead of the least X", x.fair(), 8 * 3 + 3);
        x = Check.onLake("lake 8 8 5;ice 3 3 1;ice 4 3 1;ice 5 3 1;person a 5 3 1 0;person b 3 5 1 0;");
        Bound.beyond("of those that bear 2: the next Y", x.fair(), 8 * 4 + 3);
        x = Check.onLake("lake 8 8 5;person a 5 3 1 0;person b 3 5 1 0;person c 5 5 1 0;");
        Bound.beyond("a third one is in the midst of none but 5 5", x.fair(), 8 * 5 + 5);
    }

    // ---- guesses

    private static void guesses() {
        triples();
        justThisIce();
        ask();
        danger();
        stands();
        line();
        lineBowed();
    }

    private static void triples() {
        Bound.of(PART3, "SWORE by the tape (triples of bytes: X, Y, ICE; 1 to 6 of them)");
        IceManners x = Check.onLake("rude 1 0;person a 0 0 1 0;");
        Bound.within("1", Check.swore(x, 0, 0, 4), 1);
        Bound.within("6", Check.swore(x, 0, 0, 4, 1, 0, 5, 2, 0, 5, 3, 0, 5, 4, 0, 5, 4, 4, 5), 1);
        Bound.beyond("0", Check.swore(x), -1);
        Bound.beyond("7", Check.swore(x, 0, 0, 4, 1, 0, 5, 2, 0, 5, 3, 0, 5, 4, 0, 5, 4, 4, 5, 0, 1, 5), -1);
        Bound.beyond("a third of one", Check.swore(x, 0), -1);
        Bound.beyond("two thirds of one", Check.swore(x, 0, 0), -1);
        Bound.beyond("one and a third", Check.swore(x, 0, 0, 4, 0), -1);
        Bound.beyond("one and two thirds", Check.swore(x, 0, 0, 4, 0, 0), -1);
        Bound.beyond("six and a third", Check.swore(x, 0, 0, 4, 1, 0, 5, 2, 0, 5, 3, 0, 5, 4, 0, 5, 4, 4, 5, 0), -1);
        Bound.within("the last cell", Check.swore(x, 4, 4, 5), 1);
        Bound.beyond("no such X", Check.swore(x, 5, 4, 5), -1);
        Bound.beyond("no such Y", Check.swore(x, 4, 5, 5), -1);
        Bound.beyond("bytes have no sign", Check.swore(x, 255, 0, 5), -1);
        Bound.beyond("bytes have no sign", Check.swore(x, 0, 255, 5), -1);
        Bound.beyond("the second one's cell", Check.swore(x, 0, 0, 4, 5, 0, 5), -1);
    }

    private static void justThisIce() {
        Bound.of(PART3, "PERSONS by whose SWEARING now just this ICE would be in these cells");
        IceManners x = Check.onLake("lake 4 2 5;ice 1 0 2;rude 3 1;person a 0 0 1 0;person b 2 0 1 0;person c 3 1 1 0;");
        Bound.within("0 at least, by both beside", Check.swore(x, 1, 0, 0), 3);
        Bound.within("by a alone", Check.swore(x, 1, 0, 0, 0, 0, 2), 1);
        Bound.within("by b alone", Check.swore(x, 1, 0, 0, 0, 0, 5), 2);
        Bound.within("by none of them beside", Check.swore(x, 1, 0, 2), 4);
        Bound.within("3 0 is 1 far from b, 3 1 is c's", Check.swore(x, 3, 0, 2), 6);
        Bound.beyond("1 more", Check.swore(x, 3, 0, 3), 0);
        Bound.beyond("1 less", Check.swore(x, 3, 0, 1), 0);
        Bound.beyond("no ICE is so thick", Check.swore(x, 3, 0, 10), 0);
        Bound.beyond("no ICE is so thick", Check.swore(x, 3, 0, 255), 0);
        Bound.beyond("the same cell in two ways", Check.swore(x, 3, 0, 2, 3, 0, 5), 0);
    }

    private static void ask() {
        Bound.of(PART3, "the greatest number of these that may still be left is the least (of like ones the least Y, then X)");
        IceManners x = Check.onLake("lake 8 2 5;ice 0 1 0;rude 1 0;person a 1 0 1 0;person b 3 0 1 0;person c 5 1 1 0;person d 7 1 1 0;");
        Check.swore(x, 0, 1, 0);
        Bound.within("each one's cell parts him from three: the least Y, then X", x.ask(), 1);
        Check.swore(x, 0, 1, 0, 1, 0, 5);
        Bound.within("a is not of them", x.ask(), 3);
        Check.swore(x, 0, 1, 0, 1, 0, 5, 3, 0, 5);
        Bound.within("c and d are left", x.ask(), 8 + 5);
        Check.swore(x, 0, 1, 0, 1, 0, 5, 3, 0, 5, 5, 1, 5);
        Bound.beyond("d alone: no cell parts him from anybody", x.ask(), 0);
        x = Check.onLake("lake 8 2 5;rude 1 1;person a 1 0 1 0;person b 2 0 1 0;person c 5 1 1 0;person d 7 1 1 0;");
        Check.swore(x, 0, 1, 5);
        Bound.within("1 0 is near a and b: two and two", x.ask(), 1);
    }

    private static void danger() {
        Bound.of(PART3, "DANGER of a PERSON: who would FALL, if he SWORE now");
        IceManners x = Check.onLake("rude 2 1;person a 2 2 1 0;person b 1 2 3 0;person c 3 2 4 0;person d 2 4 5 0;person e 2 1 2 0;"
            + "person f 2 1 2 0;");
        Bound.within("4 on 3, 2 and 2 on 3", x.person(0, 7), 4 + 16 + 32);
        Bound.beyond("3 on 3, 1 on 3, and d is 2 far", x.person(0, 7) & (1 + 2 + 8), 0);
        x.swear(0);
        Bound.within("they did", x.now(1), 4 + 16 + 32);
        Bound.within("now 3 on 1 would, not 1 on 1", x.person(0, 7), 2);
        Bound.beyond("who has fallen: none", x.person(2, 7), 0);
    }

    private static void stands() {
        Bound.of(PART3, "how often one can be praised yet in this HOUR till he, and all with him, FALL by it");
        for (int hollow = 1; hollow <= 9; hollow += 4) {
            for (int load = 1; load <= 5; load++) {
                IceManners x = Check.onLake("hollow " + hollow + ";person a 0 0 " + load + " 0;person b 1 0 1 0;");
                int times = hollow + 5 - load;
                for (int k = 0; k <= times; k++) {
                    Bound.within("yet, behind " + k, x.stands(0), times - k);
                    Bound.within("he stands behind " + k, x.now(1), 0);
                    x.praise(1, 0);
                }
                Bound.beyond("he fell by the next", x.now(1), 1);
                Bound.beyond("and stands none", x.stands(0), -1);
            }
        }
        IceManners x = Check.onLake("hollow 2;person a 0 0 2 0;person b 0 0 3 0;");
        Bound.within("5 on 5: the third is the one", x.stands(0), 2);
        x.hours(1);
        x.bow(0);
        Bound.within("5 on 6", x.stands(1), 3);
    }

    private static void line() {
        Bound.of(PART3, "his NAME, then ' fell', or ' at ' and X, a blank and Y as digits, ' on ' and the ICE there");
        IceManners x = Check.onLake("lake 8 8 9;ice 0 0 1;rude 1 0;person abcdefg 7 6 1 0;person z 0 0 1 0;");
        Bound.within("the longest NAME", Check.lineOf(x, 0).equals("abcdefg at 7 6 on 9"), true);
        Bound.within("the shortest", Check.lineOf(x, 1).equals("z at 0 0 on 1"), true);
        x.swear(1);
        Bound.beyond("who fell is on no ICE", Check.lineOf(x, 1).equals("z fell"), true);
        x.go(0, 1);
        x.swear(0);
        Bound.within("the ICE there now", Check.lineOf(x, 0).equals("abcdefg at 7 7 on 8"), true);
    }

    private static void lineBowed() {
        Bound.of(PART3, "' bowed' behind it, if he did in this HOUR (and fell then, too)");
        IceManners x = Check.onLake("rude 9 0;person abc 3 4 1 0;");
        Bound.beyond("he did not", Check.lineOf(x, 0).equals("abc at 3 4 on 5"), true);
        x.bow(0);
        Bound.within("he did", Check.lineOf(x, 0).equals("abc at 3 4 on 6 bowed"), true);
        x.hours(1);
        Bound.beyond("in another HOUR", Check.lineOf(x, 0).equals("abc at 3 4 on 6"), true);
        x.bow(0);
        x.swear(0);
        Bound.within("he did and fell", Check.lineOf(x, 0).equals("abc fell bowed"), true);
        x.hours(1);
        Bound.beyond("in another HOUR", Check.lineOf(x, 0).equals("abc fell"), true);
    }

    // ---- draws

    private static void draws() {
        whatIsDrawn();
        wraps();
        fallenToo();
        canNotBe();
    }

    private static int next(int x) {
        return x * 1103515245 + 12345;
    }

    private static int drawOf(int x, int n) {
        return (x >>> 8) % n;
    }

    /** The first seed whose first draws are as told: of 8, then, if there is one, of the other number. */
    private static int seedFor(int act, int of, int then) {
        for (int seed = 0; seed < 100_000; seed++) {
            int x = next(seed);
            if (drawOf(x, 8) == act && (of == 0 || drawOf(next(x), of) == then)) {
                return seed;
            }
        }
        throw new IllegalStateException("no seed draws that");
    }

    private static void whatIsDrawn() {
        Bound.of(PART3, "a draw of 8: 0 to 3: he GOES to that SIDE; 4: he BOWS; 5: a draw of all PERSONS: he PRAISES that one; "
            + "6: a draw of 4: 0: he SWEARS (each, if it can be); then the HOUR");
        String lake = "cross 9;rude 1 0;person a 2 2 1 5;";
        for (int act = 0; act < 8; act++) {
            IceManners x = Check.onLake(lake);
            boolean goes = act < 4;
            Bound.within("an HOUR", x.drawn(1, seedFor(act, 4, 0)), 1);
            Bound.within("x by " + act, x.person(0, 0), act == 0 ? 3 : act == 2 ? 1 : 2);
            Bound.within("y by " + act, x.person(0, 1), act == 1 ? 3 : act == 3 ? 1 : 2);
            Bound.within("bows by " + act, x.now(5), act == 4 ? 1 : 0);
            Bound.within("oaths by " + act, x.now(7), act == 6 ? 1 : 0);
            Bound.within("temper by " + act, x.person(0, 3), act == 4 ? 4 : act == 6 ? 0 : 5);
            Bound.within("ice by " + act, x.now(3), goes || act == 5 || act == 7 ? 125 : act == 4 ? 126 : 124);
            Bound.within("then the HOUR", x.now(0), 1);
        }
        for (int then = 1; then < 4; then++) {
            IceManners x = Check.onLake(lake);
            x.drawn(1, seedFor(6, 4, then));
            Bound.beyond("6, then " + then + ": he does not swear", x.now(7), 0);
        }
        for (int then = 0; then < 3; then++) {
            IceManners x = Check.onLake("cross 9;person a 0 0 1 5;person b 0 0 1 5;person c 2 0 1 5;");
            int seed = seedFor(5, 3, then);
            x.drawn(1, seed);
            byHand(x, 1, seed, then == 1 ? 1 : 0);
        }
    }

    /** The answer was drawn already: the same is done by hand on the same LAKE, and the rest must be alike. */
    private static void byHand(IceManners x, int hours, int seed, int praisesAtLeast) {
        String drawn = Check.seen(x);
        Bound.within("praises by draw", x.now(6) >= praisesAtLeast, true);
        x.undo();
        int s = seed;
        for (int h = 0; h < hours; h++) {
            for (int p = 0; p < x.count(2); p++) {
                s = next(s);
                int act = drawOf(s, 8);
                if (act < 4) {
                    x.go(p, act);
                } else if (act == 4) {
                    x.bow(p);
                } else if (act == 5) {
                    s = next(s);
                    x.praise(p, drawOf(s, x.count(2)));
                } else if (act == 6) {
                    s = next(s);
                    if (drawOf(s, 4) == 0) {
                        x.swear(p);
                    }
                }
            }
            x.hours(1);
        }
        Bound.within("by hand as by draw", drawn.equals(Check.seen(x)), true);
    }

    private static void wraps() {
        Bound.of(PART3, "x becomes x * 1103515245 + 12345 (an int, wrapping), the draw is (x >>> 8) % n");
        int[] seeds = {0, 1, -1, 2, Integer.MAX_VALUE, Integer.MIN_VALUE, Integer.MAX_VALUE - 1, 1 << 30, -(1 << 30), 12345};
        boolean wrapped = false;
        boolean below0 = false;
        for (int seed : seeds) {
            IceManners x = Check.onLake("lake 6 6 7;person a 2 2 1 0;person b 2 3 1 0;person c 3 3 1 0;");
            x.drawn(6, seed);
            byHand(x, 6, seed, 0);
            wrapped |= (long) seed * 1103515245L + 12345L != next(seed);
            below0 |= next(seed) < 0;
        }
        Bound.beyond("some of them wrapped", wrapped, true);
        Bound.beyond("some fell below 0", below0, true);
    }

    private static void fallenToo() {
        Bound.of(PART3, "PERSON by PERSON, fallen ones, too");
        for (int act = 4; act < 8; act++) {
            for (int then = 0; then < 2; then++) {
                IceManners x = Check.onLake("lake 6 6 7;rude 9 0;person a 2 2 1 0;person b 2 4 1 0;person c 3 4 1 0;");
                x.swear(0);
                int seed = seedFor(act, act == 5 ? 3 : 4, then);
                x.drawn(2, seed);
                Bound.beyond("he who has fallen does nothing by " + act, x.person(0, 4), 1);
                byHand(x, 2, seed, 0);
            }
        }
    }

    private static void canNotBe() {
        Bound.of(PART3, "(each, if it can be)");
        IceManners x = Check.onLake("lake 2 2 1;ice 1 0 0;rude 1 0;person a 0 0 1 0;");
        for (int side = 0; side < 4; side++) {
            x.drawn(1, seedFor(side, 0, 0));
            Bound.beyond("he can go but south: " + side, x.person(0, 1) * 8 + x.person(0, 0), side == 1 ? 8 : 0);
            x.undo();
        }
        x.drawn(1, seedFor(1, 0, 0));
        Bound.within("south", x.person(0, 1), 1);
        x.undo();
        x.bow(0);
        x.drawn(1, seedFor(4, 0, 0));
        Bound.beyond("he bowed already", x.now(5), 1);
        x.drawn(1, seedFor(4, 0, 0));
        Bound.within("in the next HOUR he can", x.now(5), 2);
        x.drawn(1, seedFor(5, 1, 0));
        Bound.beyond("he praises not himself", x.now(6), 0);
    }

    private static void fractions() {
        Bound.of(PART3, "All fractions are told by two numbers: 0 above, 1 below, in least terms");
        int[][] want = {{0, 0, 1}, {1, 1, 2}, {2, 1, 1}, {3, 3, 2}, {4, 2, 1}};
        IceManners x = Check.onLake("lake 2 2 0;");
        Bound.within("0 by 4", x.mean(0) * 100 + x.mean(1), 1);
        for (int[] w : want) {
            x = Check.onLake("lake 2 2 0;ice 0 0 " + w[0] + ";ice 1 1 " + w[0] + ";");
            Bound.within(2 * w[0] + " by 4: above", x.mean(0), w[1]);
            Bound.within(2 * w[0] + " by 4: below", x.mean(1), w[2]);
        }
        x = Check.onLake("lake 7 5 1;ice 6 4 2;");
        Bound.within("36 by 35", x.mean(0) * 100 + x.mean(1), 3635);
        x = Check.onLake("lake 8 8 9;");
        Bound.within("576 by 64", x.mean(0) * 100 + x.mean(1), 901);
        Bound.beyond("no third number", Check.meanThrows(x, 2), true);
        Bound.beyond("none ahead of the first", Check.meanThrows(x, -1), true);
    }
}
