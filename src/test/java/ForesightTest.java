/** Promises 19, 20, 21, 22, 23, 24, 28, 29: swears, falls, fair, swore, ask, stands, drawn, odds. */
public final class ForesightTest {
    public static void main(String[] args) {
        swearsAndFalls();
        farAhead();
        fair();
        swore();
        ask();
        stands();
        drawn();
        odds();
        Check.finish();
    }

    private static void swearsAndFalls() {
        IceManners x = Check.onLake("lake 2 2 3;cross 2;rude 3 0;frost 30;person a 0 0 1 0;person b 1 0 1 0;");
        String before = Check.seen(x);
        Check.due("swears", x.swears(0), 2);
        Check.due("falls", x.falls(0), 2);
        Check.due("b swears not", x.swears(1), -1);
        Check.due("b falls not", x.falls(1), -1);
        Check.due("no such person", x.swears(2), -1);
        Check.due("no such person", x.swears(-1), -1);
        Check.due("no such person", x.falls(2), -1);
        Check.due("no such person", x.falls(-1), -1);
        Check.due("all stays", before.equals(Check.seen(x)), true);
        x.hours(2);
        Check.due("the fallen swears not", x.swears(0), -1);
        Check.due("he has", x.falls(0), 0);
        x.swear(1);
        Check.due("he swore, but that was ahead", x.swears(1), -1);
        Check.lake(x, "cross 3;frost 1;rude 1 0;person a 0 0 1 4;");
        Check.due("in the first hour", x.swears(0), 1);
        Check.due("only once: nobody is near", x.falls(0), -1);
        x.hours(1);
        Check.due("not again", x.swears(0), -1);
    }

    private static void farAhead() {
        IceManners x = Check.onLake("lake 2 2 9;cross 9;rude 1 0;frost 30;person a 0 0 1 0;person b 0 1 1 0;");
        Check.due("the ninth hour", x.swears(0), 9);
        Check.lake(x, "lake 2 2 9;ice 0 0 5;cross 9;rude 1 0;frost 30;person a 0 0 5 0;person b 0 1 1 0;");
        Check.due("falls by his first oath", x.falls(0), 9);
        Check.lake(x, "lake 2 2 9;rude 2 0;cross 7;frost 4;person a 0 0 4 5;person b 1 0 3 5;");
        Check.due("the hundredth hour is too far", x.falls(0), -1);
        x.hours(1);
        Check.due("the ninety-ninth is not", x.falls(0), 99);
        Check.lake(x, "lake 3 2 9;cross 2;rude 9 0;frost 30;person a 0 0 1 0;person b 2 0 1 0;");
        for (int k = 0; k < 6; k++) {
            x.hours(60);
        }
        x.hours(38);
        x.image(0);
        x.go(1, 2);
        Check.due("by hour 400", x.swears(0), 2);
        Check.due("by hour 400", x.falls(0), 2);
        x.restore(0);
        x.hours(1);
        x.go(1, 2);
        Check.due("not by hour 400", x.swears(0), -1);
        Check.due("not by hour 400", x.falls(0), -1);
    }

    private static void fair() {
        IceManners x = new IceManners();
        Check.due("nobody", x.fair(), 0);
        Check.lake(x, "lake 2 2 0;");
        Check.due("nobody, no ice", x.fair(), 0);
        Check.lake(x, "lake 8 8 5;person a 0 0 5 0;person b 7 7 1 0;");
        Check.due("none bears 6", x.fair(), -1);
        Check.lake(x, "lake 8 8 5;ice 7 7 6;ice 3 3 6;ice 4 0 6;person a 0 0 5 0;person b 7 7 1 0;");
        Check.due("all are 14 far: the least y", x.fair(), 4);
        Check.lake(x, "lake 8 8 9;person a 3 5 1 0;person b 5 5 1 0;person c 4 6 1 0;");
        Check.due("in their midst", x.fair(), 8 * 5 + 4);
        Check.lake(x, "lake 8 8 9;person a 3 5 1 0;person b 5 5 1 0;");
        Check.due("of like ones the least x", x.fair(), 8 * 5 + 3);
        Check.lake(x, "lake 3 3 4;ice 2 2 5;rude 9 0;person a 0 0 4 0;person b 2 2 5 0;");
        Check.due("none bears 9", x.fair(), -1);
        x.swear(1);
        Check.due("the fallen have no load and are nowhere", x.fair(), 0);
        x.swear(0);
        Check.due("nobody is left: the first, bare as it is", x.fair(), 0);
    }

    private static void swore() {
        IceManners x = Check.onLake("lake 4 3 4;ice 3 2 9;rude 2 1;person a 0 0 2 0;person b 2 0 1 0;person c 3 2 3 0;");
        Check.due("between a and b", Check.swore(x, 1, 0, 2), 3);
        Check.due("neither", Check.swore(x, 1, 0, 4), 4);
        Check.due("two cells", Check.swore(x, 1, 0, 2, 0, 0, 4), 2);
        Check.due("nobody", Check.swore(x, 1, 0, 3), 0);
        Check.due("one cell in two ways", Check.swore(x, 1, 0, 2, 1, 0, 4), 0);
        Check.due("six", Check.swore(x, 3, 2, 9, 3, 2, 9, 3, 2, 9, 3, 2, 9, 3, 2, 9, 0, 0, 2), 1);
        Check.due("seven", Check.swore(x, 3, 2, 9, 3, 2, 9, 3, 2, 9, 3, 2, 9, 3, 2, 9, 0, 0, 2, 0, 0, 2), -1);
        Check.due("the tape is empty", x.count(8), 0);
        Check.due("none", Check.swore(x), -1);
        Check.due("four bytes", Check.swore(x, 0, 0, 2, 0), -1);
        Check.due("no such x", Check.swore(x, 4, 0, 2), -1);
        Check.due("no such y", Check.swore(x, 0, 3, 2), -1);
        Check.due("no such x", Check.swore(x, 255, 0, 2), -1);
        Check.due("10 ice is nobody's doing, but told as it should be", Check.swore(x, 0, 0, 10), 0);
        Check.due("nor is 255", Check.swore(x, 0, 0, 2, 3, 2, 255), 0);
        Check.due("without persons, too", Check.swore(new IceManners(), 0, 0, 16), 0);
        Check.due("such ice makes up for no cell", Check.swore(x, 0, 0, 16, 4, 0, 2), -1);
        Check.due("the second is judged, too", Check.swore(x, 0, 0, 2, 0, 200, 2), -1);
        Check.due("the tape is empty", x.count(8), 0);
        Check.lake(x, "lake 2 2 1;rude 9 0;person a 0 0 1 0;person b 1 1 1 0;");
        Check.due("0 at least", Check.swore(x, 0, 0, 0), 1);
        x.swear(0);
        Check.due("who has fallen can not", Check.swore(x, 0, 0, 0), 2);
        x.swear(1);
        Check.due("nobody can", Check.swore(x, 0, 0, 0), 0);
    }

    private static void ask() {
        IceManners x = Check.onLake("lake 5 3 4;ice 1 0 0;rude 2 1;person a 0 1 1 0;person b 2 1 1 0;person c 2 1 1 0;person d 4 1 1 0;");
        Check.due("ahead of any", x.ask(), -1);
        Check.due("all four", Check.swore(x, 1, 0, 0), 15);
        Check.due("0 0 parts one, 2 0 two of them", x.ask(), 2);
        Check.due("b, c, d", Check.swore(x, 0, 0, 4), 14);
        Check.due("2 0 parts two from one", x.ask(), 2);
        Check.due("a, d", Check.swore(x, 2, 0, 4), 9);
        Check.due("the first cell parts them", x.ask(), 0);
        Check.swore(x, 1, 0, 0);
        Check.due("0 leaves it", Check.swore(x, 1, 0, 3), 0);
        Check.due("as it was", x.ask(), 2);
        Check.due("NONE leaves it", Check.swore(x, 9), -1);
        Check.due("as it was", x.ask(), 2);
        Check.due("b, c", Check.swore(x, 2, 1, 2), 6);
        Check.due("nothing parts them", x.ask(), 0);
        Check.swore(x, 1, 0, 0);
        x.hours(1);
        x.go(0, 0);
        Check.due("by the latest swore(), whatever was done then", x.ask(), 2);
    }

    private static void stands() {
        IceManners x = Check.onLake("lake 3 3 9;hollow 2;rude 9 0;person a 0 0 1 0;person b 0 0 5 0;person c 1 0 4 0;");
        Check.due("2 and 3", x.stands(0), 5);
        Check.due("alone: 2 and 5", x.stands(2), 7);
        for (int k = 4; k >= 0; k--) {
            x.praise(1, 0);
            Check.due("one less", x.stands(0), k);
        }
        Check.due("the other one: he was not praised", x.stands(1), 2);
        Check.due("still there", x.now(1), 0);
        x.praise(1, 0);
        Check.due("both fall", x.now(1), 3);
        Check.due("fallen", x.stands(0), -1);
        Check.due("no such person", x.stands(3), -1);
        Check.due("no such person", x.stands(-1), -1);
    }

    private static void drawn() {
        IceManners x = Check.onLake("lake 6 6 5;cross 5;rude 2 1;person a 2 2 1 0;person b 3 2 2 3;person c 2 3 1 4;");
        Check.due("0", x.drawn(0, 1), -1);
        Check.due("61", x.drawn(61, 1), -1);
        Check.due("-1", x.drawn(-1, 1), -1);
        x.image(0);
        for (int seed = -3; seed < 40; seed++) {
            x.restore(0);
            Check.due("drawn", x.drawn(7, seed * 77777), 7);
            String got = Check.seen(x);
            x.restore(0);
            byHand(x, 7, seed * 77777);
            Check.due("by hand", got.equals(Check.seen(x)), true);
        }
        for (int k = 0; k < 6; k++) {
            x.drawn(60, k);
        }
        x.hours(20);
        Check.due("as many as are left", x.drawn(60, 1), 400 - 380 - 7);
        Check.due("hour", x.now(0), 400);
    }

    private static void byHand(IceManners x, int hours, int seed) {
        int s = seed;
        for (int h = 0; h < hours; h++) {
            for (int p = 0; p < x.count(2); p++) {
                s = s * 1103515245 + 12345;
                int act = (s >>> 8) % 8;
                if (act <= 3) {
                    x.go(p, act);
                } else if (act == 4) {
                    x.bow(p);
                } else if (act == 5) {
                    s = s * 1103515245 + 12345;
                    x.praise(p, (s >>> 8) % x.count(2));
                } else if (act == 6) {
                    s = s * 1103515245 + 12345;
                    if ((s >>> 8) % 4 == 0) {
                        x.swear(p);
                    }
                }
            }
            x.hours(1);
        }
    }

    private static void odds() {
        IceManners x = Check.onLake("lake 4 4 3;cross 4;rude 2 1;frost 9;person a 1 1 1 0;person b 2 1 2 3;person c 2 2 1 4;");
        Check.due("no such person", x.odds(3, 5, 1), -1);
        Check.due("no such person", x.odds(-1, 5, 1), -1);
        Check.due("0 seeds", x.odds(0, 0, 1), -1);
        Check.due("31 seeds", x.odds(0, 31, 1), -1);
        int first = Integer.MAX_VALUE - 10;
        int[] safe = new int[3];
        x.image(1);
        for (int k = 0; k < 30; k++) {
            x.restore(1);
            x.drawn(20, first + k);
            for (int p = 0; p < 3; p++) {
                safe[p] += 1 - x.person(p, 4);
            }
        }
        x.restore(1);
        String before = Check.seen(x);
        for (int p = 0; p < 3; p++) {
            Check.due("odds", x.odds(p, 30, first), safe[p]);
        }
        x.drawn(20, 5);
        int stood = 1 - x.person(0, 4);
        x.restore(1);
        Check.due("one seed", x.odds(0, 1, 5), stood);
        Check.due("some fall, some do not", safe[0] > 0 && safe[0] < 30, true);
        Check.due("all stays", before.equals(Check.seen(x)), true);
        Check.due("nothing can be undone", x.undo(), -1);
        lateOdds();
    }

    /** As many HOURS as are left are drawn, be it one or none, though all who are near swear in each. */
    private static void lateOdds() {
        IceManners x = Check.onLake("lake 8 8 9;cross 2;rude 9 0;frost 30;person a 0 0 1 0;person b 7 7 1 0;person c 0 0 1 0;");
        x.go(2, 1);
        x.go(2, 1);
        for (int k = 0; k < 6; k++) {
            x.hours(60);
        }
        x.hours(39);
        x.go(2, 3);
        x.image(0);
        int safe = 0;
        for (int seed = 0; seed < 30; seed++) {
            x.restore(0);
            Check.due("one is left", x.drawn(20, seed), 1);
            safe += 1 - x.person(0, 4);
        }
        x.restore(0);
        Check.due("odds of one hour", x.odds(0, 30, 0), safe);
        x.hours(1);
        Check.due("odds of none", x.odds(0, 30, 0), 30);
    }
}
