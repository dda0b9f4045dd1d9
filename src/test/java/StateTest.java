/** Promises 6, 7, 8, 25, 26, 27: person, cell, now, mean, line, byteAt. */
public final class StateTest {
    private static final String LAKE = "lake 4 3 4;ice 1 0 2;ice 3 2 9;ice 0 2 0;rude 2 1;cross 9;hollow 1;frost 30;"
        + "person ann 0 0 2 3;person bob 2 0 1 0;person cid 3 2 3 1;person dot 3 2 4 8;";

    public static void main(String[] args) {
        persons();
        cells();
        nows();
        means();
        lines();
        Check.finish();
    }

    private static void persons() {
        IceManners x = Check.onLake(LAKE);
        int[][] want = {
            {0, 0, 2, 3, 0, 0, 3, 0}, {2, 0, 1, 0, 0, 0, 7, 0}, {3, 2, 3, 1, 0, 0, 12, 0}, {3, 2, 4, 8, 0, 0, 12, 0},
        };
        for (int p = 0; p < 4; p++) {
            for (int what = 0; what < 8; what++) {
                Check.due("person(" + p + ", " + what + ")", x.person(p, what), want[p][what]);
            }
        }
        Check.due("person(4, 0) throws", Check.personThrows(x, 4, 0), true);
        Check.due("person(-1, 0) throws", Check.personThrows(x, -1, 0), true);
        Check.due("person(0, 8) throws", Check.personThrows(x, 0, 8), true);
        Check.due("person(0, -1) throws", Check.personThrows(x, 0, -1), true);
        x.swear(2);
        Check.due("both have fallen not yet: 7 on 7", x.now(1), 0);
        Check.due("who would now", x.person(2, 7), 12);
        Check.due("who swore has no temper", x.person(2, 3), 0);
        x.swear(3);
        Check.due("both have fallen", x.now(1), 12);
        Check.due("x where he fell", x.person(3, 0), 3);
        Check.due("y where he fell", x.person(3, 1), 2);
        Check.due("load as told", x.person(3, 2), 4);
        Check.due("temper of him who swore", x.person(3, 3), 0);
        Check.due("fallen", x.person(3, 4), 1);
        Check.due("sides of the fallen", x.person(3, 6), 0);
        Check.due("danger of the fallen", x.person(3, 7), 0);
    }

    private static void cells() {
        IceManners x = Check.onLake(LAKE);
        Check.due("ice", x.cell(3, 2, 0), 9);
        Check.due("loads", x.cell(3, 2, 1), 7);
        Check.due("who", x.cell(3, 2, 2), 12);
        Check.due("no ice", x.cell(0, 2, 0), 0);
        Check.due("no loads", x.cell(0, 2, 1), 0);
        Check.due("nobody", x.cell(0, 2, 2), 0);
        int[][] none = {{4, 0, 0}, {0, 3, 0}, {-1, 0, 0}, {0, -1, 0}, {0, 0, 3}, {0, 0, -1}, {8, 0, 0},
            {Integer.MIN_VALUE, 0, 0}, {0, Integer.MAX_VALUE, 0}};
        for (int[] n : none) {
            Check.due("no such cell", x.cell(n[0], n[1], n[2]), -1);
        }
        x.swear(2);
        x.swear(3);
        Check.due("loads of the fallen", x.cell(3, 2, 1), 0);
        Check.due("the fallen are not on it", x.cell(3, 2, 2), 0);
    }

    private static void nows() {
        IceManners x = Check.onLake(LAKE);
        Check.due("all ice", x.now(3), 4 * 9 + 2 + 9 + 0);
        Check.due("bare cells", x.now(4), 1);
        Check.due("now(8)", x.now(8), -1);
        Check.due("now(-1)", x.now(-1), -1);
        x.bow(0);
        x.bow(1);
        x.bow(1);
        Check.due("who bowed", x.now(2), 3);
        Check.due("bows", x.now(5), 2);
        x.praise(2, 3);
        x.praise(2, 2);
        Check.due("praises", x.now(6), 1);
        x.swear(1);
        Check.due("oaths", x.now(7), 1);
        x.hours(1);
        Check.due("hour", x.now(0), 1);
        Check.due("who bowed in this hour", x.now(2), 0);
        Check.due("bows so far", x.now(5), 2);
    }

    private static void means() {
        IceManners x = Check.onLake("lake 2 2 0;");
        Check.due("0 above", x.mean(0), 0);
        Check.due("1 below", x.mean(1), 1);
        Check.lake(x, "lake 4 3 4;ice 1 0 2;");
        Check.due("46 by 12", x.mean(0), 23);
        Check.due("46 by 12", x.mean(1), 6);
        Check.lake(x, "lake 7 7 1;ice 0 0 0;");
        Check.due("48 by 49", x.mean(0), 48);
        Check.due("48 by 49", x.mean(1), 49);
        Check.lake(x, "lake 8 8 9;");
        Check.due("9 by 1", x.mean(0), 9);
        Check.due("9 by 1", x.mean(1), 1);
        Check.due("mean(2) throws", Check.meanThrows(x, 2), true);
        Check.due("mean(-1) throws", Check.meanThrows(x, -1), true);
    }

    private static void line(IceManners x, int p, String want) {
        String got = Check.lineOf(x, p);
        Check.due("line '" + got + "', due is '" + want + "'", got.equals(want), true);
    }

    private static void lines() {
        IceManners x = Check.onLake("lake 8 8 3;ice 7 6 9;rude 9 0;person abcdefg 7 6 1 0;person b 0 0 1 0;");
        Check.due("byteAt ahead of any", x.byteAt(0), -1);
        Check.due("no such person", x.line(2), -1);
        Check.due("no such person", x.line(-1), -1);
        line(x, 0, "abcdefg at 7 6 on 9");
        Check.due("byteAt(19)", x.byteAt(19), -1);
        Check.due("byteAt(-1)", x.byteAt(-1), -1);
        Check.due("the latest line stays", x.line(2), -1);
        Check.due("byteAt(18)", x.byteAt(18), '9');
        x.bow(0);
        line(x, 0, "abcdefg at 7 6 on 9 bowed");
        x.swear(0);
        Check.due("it is told as it was", x.byteAt(18), '9');
        line(x, 0, "abcdefg fell bowed");
        x.hours(1);
        line(x, 0, "abcdefg fell");
        line(x, 1, "b at 0 0 on 3");
        Check.due("a shorter line has fewer bytes", x.byteAt(13), -1);
    }
}
