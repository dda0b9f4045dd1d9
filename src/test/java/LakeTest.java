/** Promises 4 and 5: lake, fault. */
public final class LakeTest {
    private static final IceManners X = new IceManners();

    public static void main(String[] args) {
        good();
        tokens();
        numbers();
        names();
        tooMany();
        length();
        stays();
        Check.finish();
    }

    private static void lines(String text, int want) {
        Check.due("lake of '" + text + "'", Check.lake(X, text), want);
        Check.due("its fault", X.fault(), 0);
        Check.due("the tape is empty", X.count(8), 0);
    }

    private static void fault(String text, int kind, int place) {
        Check.due("place in '" + text + "'", Check.lake(X, text), -1 - place);
        Check.due("kind in '" + text + "'", X.fault(), kind);
        Check.due("the tape is empty", X.count(8), 0);
    }

    private static void good() {
        lines("", 0);
        lines(" \n ", 0);
        lines("lake 2 8 0;", 1);
        Check.due("wide", X.count(0), 2);
        Check.due("high", X.count(1), 8);
        Check.due("all ice", X.now(3), 0);
        lines("lake 8 2 9 ; ice 007 1 000 ;\nperson abcdefg 0 1 5 8;person b 0 1 4 0;hollow 9;", 5);
        Check.due("all ice", X.now(3), 9 * 15);
        Check.due("loads", X.cell(0, 1, 1), 9);
        lines("ice 4 4 9;", 1);
        Check.due("5 by 5 without 'lake'", X.now(3), 24 * 5 + 9);
        lines("person lakes 0 0 1 0;person a 0 0 1 0;person zzzzzzz 4 4 5 8;", 3);
        lines("person a 0 0 1 0;rude 1 0;cross 2;hollow 1;frost 1;", 5);
        lines("rude 1 0;lake 2 2 1;", 2);
        lines("lake 2 2 1;ice 0 0 1;ice 1 0 1;ice 0 1 1;ice 1 1 1;", 5);
    }

    private static void tokens() {
        fault(";", 1, 0);
        fault("lake", 1, 4);
        fault("lake ", 1, 5);
        fault("lake 4 3 5", 1, 10);
        fault("lake 4 3 ;", 1, 9);
        fault("lake 4 3 5 6;", 1, 11);
        fault("lake a 3 5;", 1, 5);
        fault("4;", 1, 0);
        fault("  hour 1;", 1, 2);
        fault("unknown 1;", 1, 0);
        fault("lakelake 1;", 1, 0);
        fault("lake1 2 2;", 1, 0);
        fault("lake 1a 2 2;", 1, 5);
        fault("lake 0002 2 2;", 1, 5);
        fault("lake 1000 2 2;", 1, 5);
        fault("LAKE 2 2 2;", 1, 0);
        fault("lake\t2 2 2;", 1, 4);
        fault("lake 2.2 2;", 1, 6);
        fault("lake 2 2 2.", 1, 10);
        fault("lake 2 2 2;\0", 1, 11);
        fault("lake 2 2 2;\u00ff", 1, 11);
        fault("lake 2 -2 2;", 1, 7);
        fault("person abcdefgh 0 0 1 0;", 1, 7);
        fault("person 1 0 0 1 0;", 1, 7);
        fault("person ; 0 0 1 0;", 1, 7);
        fault("person (a) 0 0 1 0;", 1, 7);
        fault("person < 0 0 1 0;", 1, 7);
        fault("cross = 4;", 1, 6);
        fault("cross > 4;", 1, 6);
        String[] fixed = {"lake", "ice", "person", "rude", "cross", "hollow", "frost", "east", "south", "west", "north",
            "bows", "praises", "swears", "hour", "or", "and", "not", "fallen", "bowed", "by", "over", "temper", "load",
            "praised", "number"};
        for (String word : fixed) {
            fault("person " + word + " 0 0 1 0;", 1, 7);
        }
    }

    private static void numbers() {
        fault("lake 1 2 3;", 2, 5);
        fault("lake 9 2 3;", 2, 5);
        fault("lake 2 1 3;", 2, 7);
        fault("lake 2 9 3;", 2, 7);
        fault("lake 2 2 10;", 2, 9);
        fault("lake 999 2 1;", 2, 5);
        fault("ice 5 0 1;", 2, 4);
        fault("lake 3 4 1;ice 3 0 1;", 2, 15);
        fault("lake 3 4 1;ice 2 4 1;", 2, 17);
        fault("ice 0 0 10;", 2, 8);
        fault("person a 5 0 1 0;", 2, 9);
        fault("person a 0 5 1 0;", 2, 11);
        fault("person a 0 0 0 0;", 2, 13);
        fault("person a 0 0 6 0;", 2, 13);
        fault("person a 0 0 1 9;", 2, 15);
        fault("rude 0 0;", 2, 5);
        fault("rude 10 0;", 2, 5);
        fault("rude 1 4;", 2, 7);
        fault("cross 1;", 2, 6);
        fault("cross 10;", 2, 6);
        fault("hollow 0;", 2, 7);
        fault("hollow 10;", 2, 7);
        fault("frost 0;", 2, 6);
        fault("frost 31;", 2, 6);
        fault("ice 0 0 1;ice 0 5 1;", 2, 16);
    }

    private static void names() {
        fault("lake 2 2 1;lake 2 2 1;", 3, 11);
        fault("ice 0 0 1;lake 2 2 1;", 3, 10);
        fault("person a 0 0 1 0;lake 2 2 1;", 3, 17);
        fault("person a 0 0 1 0;ice 0 0 1;", 3, 17);
        fault("ice 1 2 1;ice 2 1 1;ice 1 2 3;", 3, 26);
        fault("ice 1 2 1;ice 01 002 3;", 3, 17);
        fault("person a 0 0 1 0;person a 1 0 1 0;", 3, 24);
        fault("ice 0 0 1;person a 0 0 2 0;", 3, 23);
        fault("person a 0 0 3 0;person b 0 0 3 0;", 3, 30);
        fault("person a 0 0 3 0;person b 0 0 6 0;", 2, 30);
        fault("rude 1 1;rude 1 1;", 3, 9);
        fault("cross 2;cross 2;", 3, 8);
        fault("hollow 2;hollow 2;", 3, 9);
        fault("frost 2;frost 2;", 3, 8);
        fault("lake 2 2 1;ice 0 0 1;lake", 3, 21);
    }

    private static void tooMany() {
        StringBuilder six = new StringBuilder();
        for (int p = 0; p < 6; p++) {
            six.append("person ").append((char) ('a' + p)).append(" 0 ").append(p / 2).append(" 1 0;");
        }
        lines(six.toString(), 6);
        Check.due("persons", X.count(2), 6);
        fault(six + "person", 4, six.length());
        fault(six + " person a 0 0 1 0;", 4, six.length() + 1);
        lines(six + "cross 3;", 7);
    }

    private static void length() {
        String pad = Check.repeat(" ", 889);
        lines(pad + "lake 2 2 2;", 1);
        fault(pad + "lake 2 2 2; ", 1, 900);
        fault(pad + " lake 2 2 2;", 1, 900);
        fault(pad + "lake 2 2 2", 1, 899);
        fault(Check.repeat(" ", 940), 1, 900);
        lines(Check.repeat(" ", 900), 0);
        // a TOKEN that begins ahead of byte 900 is read whole
        fault(Check.repeat(" ", 895) + "lake222 2 2 2;", 1, 895);
        fault(Check.repeat(" ", 890) + "lake 2 2 222;", 2, 899);
        fault(Check.repeat(" ", 896) + "persons 2 2;", 1, 896);
        fault(Check.repeat(" ", 896) + "person b 2 2;", 1, 900);
        fault(Check.repeat(" ", 892) + "person b 2 2;", 1, 900);
        fault(Check.repeat(" ", 892) + "person lake;", 1, 899);
    }

    private static void stays() {
        IceManners x = Check.onLake("lake 3 2 4;person a 1 1 2 3;");
        x.go(0, 0);
        Check.sentence(x, "load = 2");
        String before = Check.seen(x);
        Check.due("a fault", Check.lake(x, "lake 4 4 4;oops"), -12);
        Check.due("all stays", before.equals(Check.seen(x)), true);
        Check.due("the sentence stays", x.said(-1), 1);
        Check.due("what can be undone stays", x.undo(), 0);
        x.hours(3);
        x.bow(0);
        Check.due("a new lake", Check.lake(x, "person a 0 0 1 0;"), 1);
        Check.due("hour 0", x.now(0), 0);
        Check.due("nobody bowed", x.now(2), 0);
        Check.due("nobody bowed so far", x.now(5), 0);
        Check.due("no sentence", x.said(-1), -1);
        Check.due("nothing can be undone", x.undo(), -1);
        Check.due("an empty lake", Check.lake(x, ""), 0);
        Check.due("it is as a new object's", Check.seen(x).equals(Check.seen(new IceManners())), true);
        Check.due("fault of a book", Check.book(x, "hour 0;", 0), -2 - 5);
        Check.due("its kind", x.fault(), 2);
        Check.due("a book of -1000", x.book(5), -1000);
        Check.due("leaves it", x.fault(), 2);
        Check.due("a sentence", Check.sentence(x, "fallen"), 1);
        Check.due("has none", x.fault(), 0);
        Check.due("fault of a sentence", Check.sentence(x, "by me"), -4);
        Check.due("its kind", x.fault(), 3);
        Check.due("swore", Check.swore(x, 9), -1);
        Check.due("is no text with faults", x.fault(), 3);
    }
}
