/** Promises 30 to 35: book, told, sentence, said, image, restore. */
public final class TextsTest {
    private static final String LAKE = "lake 4 3 4;ice 1 0 2;ice 3 2 9;rude 2 1;cross 9;hollow 1;frost 3;"
        + "person ann 0 0 2 3;person bob 2 0 1 0;person cid 3 2 3 1;";

    public static void main(String[] args) {
        judging();
        living();
        reasons();
        bookFaults();
        saying();
        sentenceFaults();
        sentenceBounds();
        images();
        Check.finish();
    }

    private static void told(IceManners x, int why, int right, int hour, int fallen) {
        Check.due("told(0)", x.told(0), why);
        Check.due("told(1)", x.told(1), right);
        Check.due("told(2)", x.told(2), hour);
        Check.due("told(3)", x.told(3), fallen);
        Check.due("told(4)", x.told(4), -1);
        Check.due("told(-1)", x.told(-1), -1);
    }

    private static void judging() {
        IceManners x = Check.onLake(LAKE);
        Check.due("ahead of any", x.told(0), -1);
        x.hours(2);
        String before = Check.seen(x);
        Check.due("a good book", Check.book(x, "ann south;bob bows;hour 2;ann\npraises\nbob ;", 0), 3);
        told(x, 23, 3, 4, 0);
        Check.due("all stays", before.equals(Check.seen(x)), true);
        Check.due("a good book", Check.book(x, "ann east;bob praises ann;bob praises ann;hour 1;", 0), -1);
        told(x, 0, 4, 3, 1);
        Check.due("all stays", before.equals(Check.seen(x)), true);
        Check.due("a fault", Check.book(x, "ann east;bob praises", 0), -2 - 20);
        told(x, 0, 4, 3, 1);
        x.feed(0, 0, 0, 0, 0);
        Check.due("another lives", x.book(2), -1000);
        Check.due("another lives", x.book(-1), -1000);
        Check.due("the tape stays", x.count(8), 20);
        told(x, 0, 4, 3, 1);
        Check.due("an empty book", Check.book(x, "", 0), -1);
        Check.due("the tape is empty", x.count(8), 0);
        told(x, 0, 0, 2, 0);
        Check.due("2 can be undone still", x.undo(), 0);
    }

    private static void living() {
        IceManners x = Check.onLake(LAKE);
        Check.due("lived", Check.book(x, "ann east;bob praises ann;bob praises ann;hour 1;ann bows;bob bows;", 1), 4);
        told(x, 11, 4, 1, 1);
        Check.due("hour", x.now(0), 1);
        Check.due("ann fell", x.now(1), 1);
        Check.due("bob bowed not", x.now(5), 0);
        Check.due("praises", x.now(6), 2);
        Check.due("it is one act", x.undo(), 0);
        Check.due("hour", x.now(0), 0);
        Check.due("praises", x.now(6), 0);
        Check.due("a fault lets nothing be lived", Check.book(x, "ann south;oops", 1), -2 - 10);
        Check.due("nothing", x.person(0, 1), 0);
        Check.due("nothing", x.undo(), -1);
        Check.due("the first is wrong", Check.book(x, "ann west;bob bows;", 1), 0);
        told(x, 2, 0, 0, 0);
        Check.due("nothing is kept", x.undo(), -1);
    }

    private static void reason(IceManners x, String book, int line, int why) {
        Check.due("book '" + book + "'", Check.book(x, book, 0), line);
        Check.due("why of '" + book + "'", x.told(0), why);
    }

    private static void reasons() {
        IceManners x = Check.onLake("lake 3 3 2;ice 1 0 0;rude 2 0;cross 9;person a 0 0 1 0;person b 0 1 1 0;person c 2 2 1 0;");
        reason(x, "a north;", 0, 2);
        reason(x, "a west;", 0, 2);
        reason(x, "a east;", 0, 3);
        reason(x, "a south;a south;a east;a east;a north;a north;a west;", 6, 3);
        reason(x, "a swears;a east;", 1, 1);
        reason(x, "a swears;a bows;", 1, 11);
        reason(x, "a bows;a bows;", 1, 12);
        reason(x, "a bows;hour 1;a bows;", -1, 0);
        reason(x, "a praises a;", 0, 21);
        reason(x, "a swears;a praises a;", 1, 21);
        reason(x, "a swears;a praises b;", 1, 22);
        reason(x, "a swears;b praises a;", 1, 22);
        reason(x, "a praises c;", 0, 23);
        reason(x, "a swears;a swears;", 1, 31);
        reason(x, "hour 60;hour 60;hour 60;hour 60;hour 60;hour 60;hour 40;", -1, 0);
        Check.due("hour then", x.told(2), 400);
        reason(x, "hour 60;hour 60;hour 60;hour 60;hour 60;hour 60;hour 41;", 6, 41);
        Check.due("hour then", x.told(2), 360);
        reason(x, "hour 60;hour 60;hour 60;hour 60;hour 60;hour 60;hour 40;c bows;hour 1;", 8, 41);
    }

    private static void bookFault(IceManners x, String text, int kind, int place) {
        Check.due("place in '" + text + "'", Check.book(x, text, 1), -2 - place);
        Check.due("kind in '" + text + "'", x.fault(), kind);
        Check.due("the tape is empty", x.count(8), 0);
    }

    private static void bookFaults() {
        IceManners x = Check.onLake("person a 0 0 1 0;person b 0 0 1 0;");
        bookFault(x, "a", 1, 1);
        bookFault(x, "a bows", 1, 6);
        bookFault(x, "a bows bows;", 1, 7);
        bookFault(x, "a b;", 1, 2);
        bookFault(x, "a fallen;", 1, 2);
        bookFault(x, "a 1;", 1, 2);
        bookFault(x, ";", 1, 0);
        bookFault(x, "lake 2 2 2;", 1, 0);
        bookFault(x, "bows;", 1, 0);
        bookFault(x, "east bows;", 1, 0);
        bookFault(x, "a praises;", 1, 9);
        bookFault(x, "a praises hour;", 1, 10);
        bookFault(x, "a praises 1;", 1, 10);
        bookFault(x, "a praises b b;", 1, 12);
        bookFault(x, "hour;", 1, 4);
        bookFault(x, "hour a;", 1, 5);
        bookFault(x, "hour 0;", 2, 5);
        bookFault(x, "hour 61;", 2, 5);
        bookFault(x, "c bows;", 3, 0);
        bookFault(x, "a praises c;", 3, 10);
        bookFault(x, "aa bows;", 3, 0);
        bookFault(x, "abcdefgh bows;", 1, 0);
        String forty = Check.repeat("hour 1;", 40);
        Check.due("40 lines", Check.book(x, forty, 0), -1);
        bookFault(x, forty + "hour 1;", 4, 280);
        bookFault(x, forty + " a", 4, 281);
        bookFault(x, forty + "c bows;", 3, 280);
        bookFault(x, forty + "bows;", 1, 280);
        bookFault(x, forty + ";", 1, 280);
        bookFault(x, forty + Check.repeat(" ", 121), 1, 400);
        Check.due("400 bytes", Check.book(x, forty + Check.repeat(" ", 120), 0), -1);
        String pad = Check.repeat(" ", 393);
        Check.due("400 bytes", Check.book(x, pad + "a bows;", 0), -1);
        bookFault(x, pad + "a bows;\n", 1, 400);
        bookFault(x, pad + " a bows;", 1, 400);
        bookFault(x, pad + "  a bowsbows", 1, 397);
        bookFault(x, pad + "  a praises c;", 1, 400);
        Check.due("nothing was lived", x.undo(), -1);
    }

    private static void said(IceManners x, String text, int ones, int bits) {
        Check.due("sentence '" + text + "'", Check.sentence(x, text), ones);
        Check.due("its fault", x.fault(), 0);
        Check.due("said of '" + text + "'", Check.saidOf(x), bits);
        Check.due("how many", x.said(-1), Integer.bitCount(bits));
        Check.due("no further one", x.said(Integer.bitCount(bits)), -1);
    }

    private static void saying() {
        IceManners x = Check.onLake("lake 4 3 4;ice 1 0 2;ice 3 2 9;rude 2 1;cross 9;hollow 3;frost 30;"
            + "person ann 0 0 4 3;person bob 0 1 1 0;person cid 3 2 3 1;person dot 1 0 1 8;");
        Check.due("no sentence", x.said(-1), -1);
        Check.due("no sentence", x.said(0), -1);
        said(x, "fallen", 1, 0);
        said(x, "not fallen", 2, 15);
        said(x, "by ann", 1, 11);
        said(x, "by bob", 1, 3);
        said(x, "over ann", 1, 11);
        said(x, "over dot", 1, 9);
        said(x, "over cid", 1, 0);
        said(x, "temper > 1", 1, 9);
        said(x, "temper=1", 1, 4);
        said(x, "load < 3", 1, 10);
        said(x, "ice > 8", 1, 4);
        said(x, "ice=2", 1, 8);
        said(x, "number < 999", 1, 15);
        said(x, "number = 2 or number = 0", 2, 5);
        said(x, "number = 2 or number = 0 and load < 1", 3, 4);
        said(x, "(number = 2 or number = 0) and load = 4", 4, 1);
        said(x, "not number = 2 and not(number = 0 or number=1)", 6, 8);
        said(x, "not not number = 2", 3, 4);
        said(x, "number < 2 and load > 0 and temper = 0 or ice = 9", 4, 6);
        Check.due("k below NONE", x.said(-2), -1);
        Check.due("the first", x.said(0), 1);
        Check.due("the second", x.said(1), 2);
        x.bow(1);
        said(x, "bowed", 1, 2);
        x.praise(0, 3);
        x.praise(0, 3);
        said(x, "praised > 1", 1, 8);
        said(x, "praised = 0", 1, 7);
        x.swear(0);
        Check.due("ann and dot fell", x.now(1), 9);
        said(x, "fallen", 1, 9);
        said(x, "by ann", 1, 11);
        said(x, "over bob", 1, 0);
        said(x, "over ann", 1, 0);
        said(x, "ice = 0", 1, 8);
        said(x, "load = 4", 1, 1);
        said(x, "temper = 6", 1, 8);
        x.hours(1);
        said(x, "bowed", 1, 0);
        said(x, "praised > 0", 1, 0);
        IceManners y = new IceManners();
        said(y, "fallen or not fallen", 3, 0);
    }

    private static void sentenceFault(IceManners x, String text, int kind, int place) {
        Check.due("place in '" + text + "'", Check.sentence(x, text), -1 - place);
        Check.due("kind in '" + text + "'", x.fault(), kind);
        Check.due("the tape is empty", x.count(8), 0);
    }

    private static void sentenceFaults() {
        IceManners x = Check.onLake("person a 0 0 1 0;person b 0 0 1 0;");
        Check.sentence(x, "number = 1");
        sentenceFault(x, "", 1, 0);
        sentenceFault(x, "  ", 1, 2);
        sentenceFault(x, "not", 1, 3);
        sentenceFault(x, "a", 1, 0);
        sentenceFault(x, "5", 1, 0);
        sentenceFault(x, "fallen fallen", 1, 7);
        sentenceFault(x, "fallen;", 1, 6);
        sentenceFault(x, "fallen or", 1, 9);
        sentenceFault(x, "fallen and or bowed", 1, 11);
        sentenceFault(x, "or fallen", 1, 0);
        sentenceFault(x, "(fallen", 1, 7);
        sentenceFault(x, "(fallen;", 1, 7);
        sentenceFault(x, "fallen)", 1, 6);
        sentenceFault(x, "()", 1, 1);
        sentenceFault(x, "by", 1, 2);
        sentenceFault(x, "by fallen", 1, 3);
        sentenceFault(x, "by c", 3, 3);
        sentenceFault(x, "over c", 3, 5);
        sentenceFault(x, "over 1", 1, 5);
        sentenceFault(x, "temper 5", 1, 7);
        sentenceFault(x, "temper = a", 1, 9);
        sentenceFault(x, "temper == 5", 1, 8);
        sentenceFault(x, "temper < 1000", 1, 9);
        sentenceFault(x, "frost < 1", 1, 0);
        sentenceFault(x, "hour = 1", 1, 0);
        Check.due("the sentence stays", Check.saidOf(x), 2);
    }

    private static void sentenceBounds() {
        IceManners x = Check.onLake("person a 0 0 1 0;person b 0 0 1 0;");
        String twenty = "by a" + Check.repeat(" or by a", 19);
        said(x, twenty, 20, 3);
        sentenceFault(x, twenty + " or by a", 4, twenty.length() + 4);
        sentenceFault(x, twenty + " or not", 4, twenty.length() + 4);
        sentenceFault(x, twenty + " or ;", 1, twenty.length() + 4);
        sentenceFault(x, twenty + " or c", 1, twenty.length() + 4);
        said(x, "by a" + Check.repeat(" and by a", 19), 20, 3);
        String nots = Check.repeat("not ", 7);
        said(x, nots + "fallen", 8, 3);
        sentenceFault(x, nots + "not fallen", 4, 32);
        sentenceFault(x, nots + "not by c", 4, 32);
        sentenceFault(x, nots + "not ;", 1, 32);
        said(x, "(((((((by a)))))))", 8, 3);
        sentenceFault(x, "((((((((by a))))))))", 4, 8);
        said(x, "(not(not(not(by a)))) and (((((((by b)))))))", 16, 0);

    }

    private static void images() {
        IceManners x = Check.onLake(LAKE);
        Check.due("nothing is kept", x.restore(0), false);
        Check.due("nothing is kept", x.restore(1), false);
        Check.due("no such place", x.restore(2), false);
        Check.due("no such place", x.restore(-1), false);
        Check.due("no such place", x.image(2), false);
        Check.due("no such place", x.image(-1), false);
        Check.sentence(x, "load > 1");
        x.bow(0);
        x.praise(1, 0);
        String first = Check.seen(x);
        Check.due("kept", x.image(0), true);
        Check.due("the other is not", x.restore(1), false);
        x.hours(2);
        Check.lake(x, "lake 8 8 8;rude 1 0;cross 3;frost 9;hollow 7;person zed 7 7 5 5;");
        x.bow(0);
        Check.due("kept", x.image(1), true);
        String second = Check.seen(x);
        x.way(0, 7, 6);
        x.line(0);
        Check.book(x, "zed west;", 0);
        Check.swore(x, 7, 7, 8);
        x.feed(1, 2, 3, 4, 5);
        Check.due("restored", x.restore(0), true);
        Check.due("as kept", first.equals(Check.seen(x)), true);
        Check.due("the sentence, too", Check.saidOf(x), 5);
        Check.due("nothing can be undone", x.undo(), -1);
        Check.due("the tape stays", x.count(8), 20);
        Check.due("wayAt stays", x.wayAt(0), 3);
        Check.due("byteAt stays", x.byteAt(0), 'z');
        Check.due("told stays", x.told(1), 1);
        Check.due("ask stays", x.ask(), 0);
        Check.due("the names are as kept", Check.book(x, "ann south;", 1), -1);
        Check.due("one can be undone", x.undo(), 0);
        x.swear(2);
        Check.due("restored", x.restore(1), true);
        Check.due("as kept", second.equals(Check.seen(x)), true);
        Check.due("no sentence was there", x.said(-1), -1);
        Check.due("nothing can be undone", x.undo(), -1);
        Check.due("again", x.restore(0), true);
        Check.due("it is kept still", first.equals(Check.seen(x)), true);
        x.hours(1);
        Check.due("kept anew", x.image(0), true);
        String third = Check.seen(x);
        Check.due("undo goes on behind image()", x.undo(), 0);
        x.restore(0);
        Check.due("as kept anew", third.equals(Check.seen(x)), true);
    }
}
