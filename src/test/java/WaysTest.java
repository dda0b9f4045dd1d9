/** Promises 15 to 18: way, wayAt, bows, firm. */
public final class WaysTest {
    public static void main(String[] args) {
        ways();
        order();
        bows();
        firm();
        none();
        Check.finish();
    }

    private static String way(IceManners x, int p, int cx, int cy) {
        int steps = x.way(p, cx, cy);
        StringBuilder all = new StringBuilder();
        for (int k = 0; k < steps; k++) {
            all.append(x.wayAt(k));
        }
        return steps + ":" + all;
    }

    private static void due(String got, String want) {
        Check.due("way " + got + ", due is " + want, got.equals(want), true);
    }

    private static void ways() {
        IceManners x = Check.onLake("lake 3 3 2;ice 1 0 0;ice 1 1 0;person a 0 0 2 0;person b 0 1 1 0;person c 2 2 1 0;");
        Check.due("ahead of any", x.wayAt(0), -1);
        due(way(x, 0, 0, 0), "0:");
        Check.due("no step", x.wayAt(0), -1);
        Check.due("b is in the way of a", x.way(0, 0, 2), -1);
        due(way(x, 1, 2, 0), "5:10033");
        Check.due("a bare cell", x.way(1, 1, 1), -1);
        Check.due("a NONE leaves the latest way", x.wayAt(4), 3);
        Check.due("wayAt(5)", x.wayAt(5), -1);
        Check.due("wayAt(-1)", x.wayAt(-1), -1);
        x.go(1, 1);
        Check.due("it is told as it was", x.wayAt(0), 1);
        due(way(x, 1, 2, 2), "2:00");
        x.swear(2);
        Check.due("the fallen are in nobody's way, but the ice is gone", x.way(1, 2, 2), -1);
    }

    private static void order() {
        IceManners x = Check.onLake("lake 8 8 5;person a 4 4 1 0;");
        due(way(x, 0, 6, 6), "4:0011");
        due(way(x, 0, 2, 6), "4:1122");
        due(way(x, 0, 2, 2), "4:2233");
        due(way(x, 0, 6, 2), "4:0033");
        Check.lake(x, "lake 4 4 5;ice 1 0 0;ice 1 2 0;ice 2 2 0;person a 0 0 1 0;");
        due(way(x, 0, 3, 3), "6:100011");
        // a long way round
        Check.lake(x, "lake 8 8 1;ice 0 1 0;ice 1 1 0;ice 2 1 0;ice 3 1 0;ice 4 1 0;ice 5 1 0;ice 6 1 0;"
            + "ice 1 3 0;ice 2 3 0;ice 3 3 0;ice 4 3 0;ice 5 3 0;ice 6 3 0;ice 7 3 0;"
            + "ice 0 5 0;ice 1 5 0;ice 2 5 0;ice 3 5 0;ice 4 5 0;ice 5 5 0;ice 6 5 0;"
            + "ice 1 7 0;ice 2 7 0;ice 3 7 0;ice 4 7 0;ice 5 7 0;ice 6 7 0;ice 7 7 0;person a 0 0 1 0;");
        due(way(x, 0, 0, 7), "35:0000000" + "11" + "2222222" + "11" + "0000000" + "11" + "2222222" + "1");
    }

    private static void bows() {
        IceManners x = Check.onLake("lake 3 2 0;ice 0 0 5;ice 2 0 9;ice 2 1 4;person a 0 0 4 0;person b 2 0 5 0;person c 2 0 1 0;person d 2 1 1 0;");
        Check.due("he is there", x.bows(0, 0, 0), 0);
        Check.due("4 to one cell", x.bows(0, 1, 0), 4);
        Check.due("besides b and c would be 10", x.bows(0, 2, 0), -1);
        Check.due("besides d: 4 and 4 and 1", x.bows(0, 2, 1), 9);
        Check.due("1 is enough for d", x.bows(3, 1, 1), 1);
        Check.due("d to a by b and c: 7 on 9, 1, 5 on 5", x.bows(3, 0, 0), 1);
        Check.due("all stays", x.now(3), 18);
        Check.lake(x, "lake 2 2 0;ice 0 0 9;ice 0 1 9;person a 0 0 5 0;person b 0 1 5 0;");
        Check.due("10 are too much for any ice", x.bows(0, 0, 1), -1);
        Check.due("to the last cell", x.bows(0, 1, 1), 10);
        Check.lake(x, "lake 2 2 0;ice 0 0 9;ice 0 1 9;person a 0 0 5 0;person b 0 1 4 0;");
        Check.due("9 are not", x.bows(0, 0, 1), 0);
        Check.due("nor for the other", x.bows(1, 0, 0), 0);
        Check.lake(x, "lake 3 2 3;ice 1 0 1;ice 2 0 3;person a 0 0 3 0;");
        Check.due("round is free", x.bows(0, 2, 0), 0);
    }

    private static void firm() {
        IceManners x = Check.onLake("lake 3 3 9;ice 0 0 2;ice 1 0 3;ice 2 0 8;ice 0 1 5;ice 1 1 4;ice 2 1 7;ice 1 2 6;person a 0 0 2 0;person b 0 2 5 0;person c 0 2 3 0;");
        Check.due("he is there", x.firm(0, 0, 0), 2);
        Check.due("its own ice, by which way ever", x.firm(0, 1, 0), 3);
        Check.due("the straight way is thinner", x.firm(0, 2, 0), 4);
        Check.due("straight", x.firm(0, 0, 1), 5);
        Check.due("a cell that does not bear him", x.firm(0, 0, 2), -1);
        Check.due("round by b is no way", x.firm(0, 2, 2), 4);
        x.go(1, 0);
        Check.due("now it is not either: 5 and 2 on 6", x.firm(0, 2, 2), 4);
        x.go(1, 0);
        Check.due("now it is: 5, 9, 6, 9", x.firm(0, 2, 2), 5);
        Check.due("its own thickness counts", x.firm(0, 1, 2), 5);
        Check.due("the start is not counted", x.firm(0, 0, 1), 5);
        Check.lake(x, "lake 2 2 3;ice 1 0 2;person a 0 0 3 0;");
        Check.due("just borne", x.firm(0, 0, 1), 3);
        Check.due("not borne", x.firm(0, 1, 0), -1);
    }

    private static void none() {
        IceManners x = Check.onLake("lake 2 2 1;ice 0 1 0;rude 1 0;person a 0 0 1 0;person b 1 0 1 0;");
        int[][] none = {{2, 0, 0}, {-1, 0, 0}, {0, 2, 0}, {0, 0, 2}, {0, -1, 0}, {0, 0, -1}, {0, 8, 0}, {0, 0, 8}};
        for (int[] n : none) {
            Check.due("no such way", x.way(n[0], n[1], n[2]), -1);
            Check.due("no such bows", x.bows(n[0], n[1], n[2]), -1);
            Check.due("no such firm", x.firm(n[0], n[1], n[2]), -1);
        }
        x.swear(0);
        Check.due("he has fallen", x.way(0, 0, 0), -1);
        Check.due("he has fallen", x.bows(0, 0, 0), -1);
        Check.due("he has fallen", x.firm(0, 0, 0), -1);
        Check.due("there is no way", x.firm(1, 0, 0), -1);
        Check.due("by 1 there is", x.bows(1, 0, 0), 1);
    }
}
