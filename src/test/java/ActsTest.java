/** Promises 9 to 14: go, bow, praise, swear, hours, undo. */
public final class ActsTest {
    public static void main(String[] args) {
        going();
        bowing();
        praising();
        swearing();
        hours();
        hourOrder();
        lastHour();
        undoing();
        undoneKinds();
        Check.finish();
    }

    private static void going() {
        IceManners x = Check.onLake("lake 3 2 2;ice 1 0 1;ice 0 1 3;person a 0 0 2 0;person b 0 1 1 0;person c 2 0 2 0;");
        Check.due("too heavy", x.go(0, 0), 3);
        Check.due("no cell west", x.go(0, 2), 2);
        Check.due("no cell north", x.go(0, 3), 2);
        Check.due("no cell east", x.go(2, 0), 2);
        Check.due("just borne besides b", x.go(0, 1), 0);
        Check.due("he is there", x.cell(0, 1, 2), 3);
        Check.due("he is gone", x.cell(0, 0, 2), 0);
        Check.due("no cell south", x.go(0, 1), 2);
        Check.due("north again", x.go(0, 3), 0);
        Check.due("y", x.person(0, 1), 0);
        Check.due("no such side", x.go(0, 4), -1);
        Check.due("no such side", x.go(0, -1), -1);
        Check.due("no such person", x.go(3, 0), -1);
        Check.due("no such person", x.go(-1, 0), -1);
        x.swear(2);
        Check.due("c fell", x.now(1), 4);
        Check.due("the fallen do not go", x.go(2, 0), 1);
        Check.due("the fallen do not go, wherever", x.go(2, 2), 1);
    }

    private static void bowing() {
        IceManners z = Check.onLake("lake 2 2 3;person a 0 0 1 8;");
        Check.due("bow", z.bow(0), 0);
        Check.due("1 ice more", z.cell(0, 0, 0), 4);
        Check.due("no other cell", z.now(3), 13);
        Check.due("temper 1 less", z.person(0, 3), 7);
        IceManners x = Check.onLake("lake 2 2 8;rude 9 0;person a 0 0 2 1;person b 0 0 1 0;");
        Check.due("bow", x.bow(0), 0);
        Check.due("ice", x.cell(0, 0, 0), 9);
        Check.due("temper", x.person(0, 3), 0);
        Check.due("once an hour", x.bow(0), 2);
        Check.due("9 ice at most", x.bow(1), 0);
        Check.due("9 ice at most", x.cell(0, 0, 0), 9);
        Check.due("0 temper at least", x.person(1, 3), 0);
        Check.due("bows", x.now(5), 2);
        Check.due("no such person", x.bow(2), -1);
        Check.due("no such person", x.bow(-1), -1);
        x.swear(0);
        Check.due("fallen is the least reason", x.bow(0), 1);
        Check.due("he bowed all the same", x.now(2), 3);
    }

    private static void praising() {
        IceManners x = Check.onLake("lake 3 3 4;hollow 2;person a 0 0 1 0;person b 0 0 1 5;person c 1 0 1 1;person d 1 1 1 0;");
        Check.due("alike", x.praise(0, 0), 1);
        Check.due("too far", x.praise(0, 3), 3);
        Check.due("no such person", x.praise(0, 4), -1);
        Check.due("no such person", x.praise(4, 0), -1);
        Check.due("no such person", x.praise(-1, -1), -1);
        Check.due("on one cell", x.praise(0, 1), 0);
        Check.due("temper", x.person(1, 3), 4);
        Check.due("praised", x.person(1, 5), 1);
        Check.due("from beside", x.praise(2, 1), 0);
        Check.due("not hollow yet", x.cell(0, 0, 0), 4);
        Check.due("hollow", x.praise(2, 1), 0);
        Check.due("1 ice less", x.cell(0, 0, 0), 3);
        Check.due("another one's praise is his own", x.praise(1, 0), 0);
        Check.due("and not hollow", x.cell(0, 0, 0), 3);
        Check.due("hollow", x.praise(2, 1), 0);
        Check.due("2 bear 2", x.now(1), 0);
        Check.due("hollow", x.praise(2, 1), 0);
        Check.due("all on the cell fall", x.now(1), 3);
        Check.due("temper as it was then", x.person(1, 3), 0);
        Check.due("praised in this hour", x.person(1, 5), 5);
        Check.due("ice", x.cell(0, 0, 0), 1);
        Check.due("one has fallen", x.praise(2, 1), 2);
        Check.due("one has fallen", x.praise(1, 2), 2);
        Check.due("alike is less than fallen", x.praise(1, 1), 1);
        Check.due("fallen is less than far", x.praise(1, 3), 2);
        Check.due("praises", x.now(6), 6);
        x.hours(1);
        Check.due("praised in this hour", x.person(1, 5), 0);
        Check.due("temper 0 at least", x.praise(3, 2), 0);
    }

    private static void swearing() {
        IceManners x = Check.onLake("lake 5 5 5;ice 2 1 1;rude 2 2;person a 2 2 3 8;person b 2 4 4 2;person c 4 4 5 1;person d 3 3 2 0;");
        Check.due("danger", x.person(0, 7), 2);
        Check.due("swear", x.swear(0), 0);
        int[][] due = {
            {5, 5, 3, 5, 5}, {5, 3, 0, 3, 5}, {3, 3, 3, 3, 3}, {5, 3, 3, 3, 5}, {5, 5, 3, 5, 5},
        };
        for (int y = 0; y < 5; y++) {
            for (int c = 0; c < 5; c++) {
                Check.due("ice at " + c + " " + y, x.cell(c, y, 0), due[y][c]);
            }
        }
        Check.due("b fell", x.now(1), 2);
        Check.due("his temper as it was then", x.person(1, 3), 2);
        Check.due("temper", x.person(0, 3), 0);
        Check.due("he swears, c falls, too", x.swear(3), 0);
        Check.due("fallen", x.now(1), 2 + 4 + 8 + 1);
        Check.due("the fallen do not swear", x.swear(1), 1);
        Check.due("no such person", x.swear(4), -1);
        Check.due("no such person", x.swear(-1), -1);
        Check.due("oaths", x.now(7), 2);
    }

    private static void hours() {
        IceManners x = Check.onLake("lake 3 3 5;ice 2 2 9;cross 4;rude 1 0;frost 3;person a 0 0 1 0;person b 1 0 1 8;person c 1 0 1 0;");
        Check.due("0 hours", x.hours(0), -1);
        Check.due("61 hours", x.hours(61), -1);
        Check.due("-1 hours", x.hours(-1), -1);
        x.bow(0);
        x.praise(0, 1);
        Check.due("an hour", x.hours(1), 1);
        Check.due("a met two", x.person(0, 3), 2);
        Check.due("b swore", x.person(1, 3), 0);
        Check.due("oaths", x.now(7), 1);
        Check.due("ice", x.cell(1, 0, 0), 4);
        Check.due("who bowed", x.now(2), 0);
        Check.due("praised", x.person(1, 5), 0);
        Check.due("the next", x.hours(1), 1);
        Check.due("a swore", x.person(0, 3), 0);
        Check.due("c swore", x.person(2, 3), 0);
        Check.due("b did not", x.person(1, 3), 2);
        Check.due("no frost yet", x.cell(0, 1, 0), 5);
        Check.due("the third", x.hours(1), 1);
        Check.due("frost", x.cell(0, 1, 0), 6);
        Check.due("9 at most", x.cell(2, 2, 0), 9);
        Check.due("hour", x.now(0), 3);
    }

    /** PERSON by PERSON: whoever has fallen by an earlier one's swearing does not swear and is not met any more. */
    private static void hourOrder() {
        IceManners x = Check.onLake("lake 3 2 3;cross 2;rude 3 1;frost 30;person a 0 0 1 1;person b 1 0 1 1;person c 2 0 1 1;");
        x.hours(1);
        Check.due("a swore alone", x.now(7), 1);
        Check.due("a and b fell", x.now(1), 3);
        Check.due("b swore not: temper as it was then", x.person(1, 3), 1);
        Check.due("c met nobody", x.person(2, 3), 1);
        IceManners y = Check.onLake("lake 2 2 9;cross 9;rude 1 0;frost 30;person a 0 0 1 8;person b 0 0 1 7;person c 0 0 1 6;");
        y.hours(1);
        Check.due("temper 9 at most: 8 and 2 swears by 9", y.now(7), 2);
        Check.due("c did not", y.person(2, 3), 8);
        IceManners z = Check.onLake("cross 3;frost 30;person a 0 0 1 4;");
        z.hours(1);
        Check.due("who is cross from the first swears", z.now(7), 1);
    }

    private static void lastHour() {
        IceManners x = Check.onLake("frost 20;person a 0 0 1 0;");
        for (int k = 0; k < 6; k++) {
            x.hours(60);
        }
        Check.due("hour", x.now(0), 360);
        Check.due("39 more", x.hours(39), 39);
        Check.due("one is left", x.hours(60), 1);
        Check.due("hour", x.now(0), 400);
        Check.due("none is left", x.hours(1), 0);
        Check.due("not as told is NONE still", x.hours(0), -1);
        Check.due("none is drawn", x.drawn(1, 5), 0);
        Check.due("hours() of 0 are not kept", x.undo(), 7);
        Check.due("the one hour is undone", x.now(0), 399);
        x.hours(1);
        Check.due("bow in hour 400", x.bow(0), 0);
        Check.due("swears", x.swears(0), -1);
        Check.due("falls", x.falls(0), -1);
        Check.due("odds", x.odds(0, 3, 1), 3);
    }

    private static void undoing() {
        IceManners x = Check.onLake("lake 4 4 5;person a 0 0 1 4;person b 0 0 1 0;");
        Check.due("none", x.undo(), -1);
        String[] seen = new String[12];
        for (int k = 0; k < 11; k++) {
            seen[k] = Check.seen(x);
            x.go(0, k % 2 == 0 ? 0 : 2);
            x.go(0, 3);
        }
        for (int k = 10; k >= 3; k--) {
            Check.due("undo", x.undo(), k - 3);
            Check.due("as it was", seen[k].equals(Check.seen(x)), true);
        }
        Check.due("8 at most are kept", x.undo(), -1);
        Check.due("it stays", seen[3].equals(Check.seen(x)), true);
        x.bow(0);
        Check.sentence(x, "bowed");
        Check.due("undo", x.undo(), 0);
        Check.due("the sentence stays", x.said(-1), 0);
    }

    private static void undoneKinds() {
        IceManners x = Check.onLake("lake 4 4 5;person a 0 0 1 4;person b 0 0 1 0;");
        String first = Check.seen(x);
        x.go(0, 0);
        x.bow(0);
        x.praise(0, 1);
        x.swear(1);
        x.hours(2);
        x.drawn(2, 77);
        Check.book(x, "a bows;b swears;", 1);
        Check.book(x, "a bows;b swears;", 0);
        Check.book(x, "b praises b;", 1);
        Check.book(x, "", 1);
        Check.book(x, "hour 61;", 1);
        x.go(0, 9);
        x.hours(0);
        x.drawn(0, 1);
        x.way(0, 0, 0);
        x.odds(0, 3, 3);
        for (int k = 6; k >= 0; k--) {
            Check.due("undo", x.undo(), k);
        }
        Check.due("none is left", x.undo(), -1);
        Check.due("as it was", first.equals(Check.seen(x)), true);
        Check.book(x, "a bows;a bows;", 1);
        Check.due("a book of which some line was lived", x.undo(), 0);
        Check.due("as it was", first.equals(Check.seen(x)), true);
    }
}
