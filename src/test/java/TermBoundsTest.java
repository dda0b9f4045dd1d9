/** Each boundary case that the terms name for texts: TOKENS, LAKE, BOOK, SENTENCE and FAULTS. */
public final class TermBoundsTest {
    private static final String[] FIXED = {"lake", "ice", "person", "rude", "cross", "hollow", "frost", "east", "south", "west",
        "north", "bows", "praises", "swears", "hour", "or", "and", "not", "fallen", "bowed", "by", "over", "temper", "load",
        "praised", "number"};

    public static void main(String[] args) {
        tokens();
        lakes();
        persons();
        books();
        sentences();
        ones();
        faults();
        moreFaults();
        Bound.finish();
    }

    private static IceManners two() {
        return Check.onLake("person a 0 0 1 0;person b 0 0 1 0;");
    }

    // ---- TOKENS

    private static void tokens() {
        blanks();
        words();
        numbers();
        signs();
        goesOn();
    }

    private static void blanks() {
        Bound.of("TOKENS", "with blanks (32, 10) between them or not");
        Bound.lakeWithin("lake\n2 2\n \n2 ;\n", 1);
        Bound.lakeWithin("lake 2 2 2;rude 1 0;cross 2;", 3);
        Bound.sentenceWithin(two(), "not(load<1 or load=1)", 4, 0);
        for (char c : new char[] {0, 8, 9, 11, 13, 31, 33, 127, 160, 255}) {
            Bound.lakeBeyond(1, "lake^" + c + "2 2 2;");
            Bound.lakeBeyond(1, "lake 2 2 2;^" + c);
        }
    }

    private static void words() {
        Bound.of("TOKENS", "WORDS: small letters, 1 to 7");
        Bound.lakeWithin("person a 0 0 1 0;person z 0 0 1 0;", 2);
        Bound.lakeWithin("person abcdefg 0 0 1 0;person tuvwxyz 0 0 1 0;", 2);
        Bound.lakeBeyond(1, "person ^abcdefgh 0 0 1 0;");
        Bound.lakeBeyond(1, "person ^0 0 1 0;");
        Bound.lakeBeyond(1, "person ^A 0 0 1 0;");
        Bound.lakeBeyond(1, "person ^Z 0 0 1 0;");
        Bound.lakeBeyond(1, "person ^` 0 0 1 0;");
        Bound.lakeBeyond(1, "person ^{ 0 0 1 0;");
        Bound.lakeBeyond(1, "person a^` 0 0 1 0;");
        Bound.lakeBeyond(1, "person z^{ 0 0 1 0;");
    }

    private static void numbers() {
        Bound.of("TOKENS", "NUMBERS: 1 to 3 digits");
        IceManners x = Bound.lakeWithin("lake 3 04 009;", 1);
        Bound.within("all ice", x.now(3), 3 * 4 * 9);
        Bound.lakeWithin("lake 003 004 000;", 1);
        Bound.sentenceWithin(two(), "load < 999", 1, 3);
        Bound.lakeBeyond(1, "lake ^0003 4 9;");
        Bound.lakeBeyond(1, "lake 3 4 ^0009;");
        Bound.lakeBeyond(1, "lake ^; 4 9;");
        Bound.lakeBeyond(1, "lake ^/ 4 9;");
        Bound.lakeBeyond(1, "lake ^: 4 9;");
        Bound.lakeBeyond(1, "lake 2^: 4 9;");
        Bound.sentenceBeyond(two(), 1, "load < ^1000");
    }

    private static void signs() {
        Bound.of("TOKENS", "; < = > ( ) .");
        for (int b = 0; b < 256; b++) {
            IceManners x = two();
            char c = (char) b;
            boolean isBlank = c == ' ' || c == '\n';
            boolean goesOn = c >= 'a' && c <= 'z' || c >= '0' && c <= '9';
            if (c == '<' || c == '=' || c == '>') {
                Bound.sentenceWithin(x, "load" + c + "1", 1, c == '=' ? 3 : 0);
            } else if (c != '^') {
                // what goes on with letters and digits is one TOKEN that is none; a blank leaves the NUMBER in the SIGN's place
                Bound.sentenceBeyond(x, 1, goesOn ? "^load" + c + "1" : isBlank ? "load" + c + "^1" : "load^" + c + "1");
            }
        }
        Bound.sentenceWithin(two(), "(fallen)", 2, 0);
        Bound.sentenceBeyond(two(), 1, "^)fallen(");
        Bound.sentenceBeyond(two(), 1, "^[fallen]");
        Bound.sentenceBeyond(two(), 1, "fallen^.");
        Bound.lakeBeyond(1, "lake 2 2 2^:");
        Bound.lakeBeyond(1, "lake 2 2 2^.");
    }

    private static void goesOn() {
        Bound.of("TOKENS", "A WORD, NUMBER goes on as long as small letters and digits do; what is not as told is no TOKEN");
        Bound.lakeWithin("cross\n2;frost 3;", 2);
        Bound.sentenceWithin(two(), "load<3 and load>0", 2, 3);
        Bound.lakeBeyond(1, "^cross2;");
        Bound.lakeBeyond(1, "cross ^2a;");
        Bound.lakeBeyond(2, "cross ^23;");
        Bound.lakeBeyond(1, "person ^a1 0 0 1 0;");
        Bound.lakeBeyond(1, "person ^1a 0 0 1 0;");
        Bound.lakeBeyond(1, "^crosscross 2;");
        Bound.lakeBeyond(1, "cross 2 ^a1;");
        Bound.lakeBeyond(1, "cross 2;^1a;");
        Bound.sentenceBeyond(two(), 1, "(fallen ^a1)");
        Bound.lakeBeyond(1, "^lakes 2 2 2;");
        Bound.sentenceBeyond(two(), 1, "load<^3and load>0");
        Bound.sentenceBeyond(two(), 1, "^notfallen");
    }

    // ---- LAKE

    private static void lakes() {
        lakeBytes();
        lakeLines();
        lakeNumbers();
        lakeOnce();
        lakeUntold();
        iceNumbers();
        iceCells();
        iceAhead();
        rude();
        cross();
        hollow();
        frost();
        places();
    }

    private static void lakeBytes() {
        Bound.of("LAKE", "A LAKE is a text of at most 900 bytes");
        Bound.lakeWithin(Bound.pad("lake 2 2 2;", 900), 1);
        Bound.lakeWithin("lake 2 2 2;" + Check.repeat("\n", 889), 1);
        Bound.lakeWithin(Check.repeat(" ", 900), 0);
        Bound.lakeBeyond(1, Bound.pad("lake 2 2 2^;", 901));
        Bound.lakeBeyond(1, "lake 2 2 2;" + Check.repeat("\n", 889) + "^\n");
        Bound.lakeBeyond(1, Check.repeat(" ", 900) + "^ ");
        Bound.lakeBeyond(1, Check.repeat(" ", 900) + "^" + Check.repeat(" ", 40));
    }

    private static void lakeLines() {
        Bound.of("LAKE", "{ LINE ; }");
        Bound.lakeWithin("", 0);
        Bound.lakeWithin("lake 2 2 2;", 1);
        // every LINE that can be told but for PERSONS
        StringBuilder many = new StringBuilder("lake 8 8 1;");
        for (int cell = 0; cell < 64; cell++) {
            many.append("ice ").append(cell % 8).append(' ').append(cell / 8).append(" 1;");
        }
        Bound.lakeWithin(many + "rude 1 1;cross 2;hollow 1;frost 1;", 69);
        Bound.lakeBeyond(1, "^;");
        Bound.lakeBeyond(1, "lake 2 2 2^");
        Bound.lakeBeyond(1, "lake 2 2 2;^;");
        Bound.lakeBeyond(1, "lake 2 2 2 ^cross 2;");
        Bound.lakeBeyond(1, "cross 2;^east;");
    }

    private static void lakeNumbers() {
        Bound.of("LAKE", "'lake' WIDE HIGH N (2 to 8 each; 0 to 9: the ICE of all cells");
        IceManners least = Bound.lakeWithin("lake 2 2 0;", 1);
        Bound.within("wide", least.count(0), 2);
        Bound.within("high", least.count(1), 2);
        Bound.within("all ice", least.now(3), 0);
        IceManners most = Bound.lakeWithin("lake 8 8 9;", 1);
        Bound.within("wide", most.count(0), 8);
        Bound.within("high", most.count(1), 8);
        Bound.within("all ice", most.now(3), 576);
        Bound.lakeBeyond(2, "lake ^1 2 0;");
        Bound.lakeBeyond(2, "lake ^9 8 9;");
        Bound.lakeBeyond(2, "lake 2 ^1 0;");
        Bound.lakeBeyond(2, "lake 8 ^9 9;");
        Bound.lakeBeyond(2, "lake 8 8 ^10;");
        Bound.lakeBeyond(2, "lake ^0 8 9;");
        Bound.lakeBeyond(2, "lake ^999 8 9;");
    }

    private static void lakeOnce() {
        Bound.of("LAKE", "once, ahead of all others with X, Y");
        Bound.lakeWithin("rude 1 0;cross 2;hollow 1;frost 1;lake 2 2 1;ice 1 1 2;person a 1 1 1 0;", 7);
        Bound.lakeBeyond(3, "lake 2 2 1;^lake 2 2 1;");
        Bound.lakeBeyond(3, "ice 1 1 2;^lake 2 2 1;");
        Bound.lakeBeyond(3, "person a 1 1 1 0;^lake 2 2 1;");
        Bound.lakeBeyond(3, "lake 2 2 1;ice 0 0 1;^lake 2 2 1;");
    }

    private static void lakeUntold() {
        Bound.of("LAKE", "5, 5 and 5 without");
        IceManners x = Bound.lakeWithin("ice 4 4 9;", 1);
        Bound.within("wide", x.count(0), 5);
        Bound.within("high", x.count(1), 5);
        Bound.within("all ice", x.now(3), 24 * 5 + 9);
        Bound.within("the first cell", x.cell(0, 0, 0), 5);
        Bound.lakeBeyond(2, "ice ^5 4 9;");
        Bound.lakeBeyond(2, "ice 4 ^5 9;");
    }

    private static void iceNumbers() {
        Bound.of("LAKE", "'ice' X Y N (0 to 9");
        Bound.within("ice", Bound.lakeWithin("ice 1 2 0;", 1).cell(1, 2, 0), 0);
        Bound.within("ice", Bound.lakeWithin("ice 1 2 9;", 1).cell(1, 2, 0), 9);
        Bound.lakeBeyond(2, "ice 1 2 ^10;");
        Bound.lakeBeyond(1, "ice 1 2^;");
    }

    private static void iceCells() {
        Bound.of("LAKE", "each cell once");
        Bound.lakeWithin("lake 2 2 1;ice 0 0 1;ice 1 0 1;ice 0 1 1;ice 1 1 1;", 5);
        Bound.lakeWithin("lake 8 8 1;ice 7 7 1;ice 7 6 1;ice 6 7 1;ice 0 0 1;", 5);
        Bound.lakeBeyond(3, "lake 2 2 1;ice 0 0 1;ice 0 ^0 1;");
        Bound.lakeBeyond(3, "lake 8 8 1;ice 7 7 1;ice 7 6 1;ice 7 ^7 1;");
        Bound.lakeBeyond(3, "ice 0 4 1;ice 000 ^04 5;");
    }

    private static void iceAhead() {
        Bound.of("LAKE", "ahead of all PERSONS");
        Bound.lakeWithin("ice 0 0 9;ice 1 0 9;person a 2 0 1 0;cross 2;", 4);
        Bound.lakeBeyond(3, "ice 0 0 9;person a 2 0 1 0;^ice 1 0 9;");
        Bound.lakeBeyond(3, "person a 2 0 1 0;cross 2;^ice 1 0 9;");
    }

    private static void rude() {
        Bound.of("LAKE", "'rude' N REACH (1 to 9; 0 to 3; once; 2, 1 without)");
        IceManners least = Bound.lakeWithin("rude 1 0;", 1);
        Bound.within("rude", least.count(3), 1);
        Bound.within("reach", least.count(4), 0);
        IceManners most = Bound.lakeWithin("rude 9 3;", 1);
        Bound.within("rude", most.count(3), 9);
        Bound.within("reach", most.count(4), 3);
        Bound.lakeBeyond(2, "rude ^0 0;");
        Bound.lakeBeyond(2, "rude ^10 3;");
        Bound.lakeBeyond(2, "rude 9 ^4;");
        Bound.lakeBeyond(3, "rude 9 3;^rude 9 3;");
        IceManners without = Check.onLake("cross 9;");
        Bound.beyond("rude without", without.count(3), 2);
        Bound.beyond("reach without", without.count(4), 1);
    }

    private static void cross() {
        Bound.of("LAKE", "'cross' N (2 to 9; once; 5 without)");
        Bound.within("cross", Bound.lakeWithin("cross 2;", 1).count(5), 2);
        Bound.within("cross", Bound.lakeWithin("cross 9;", 1).count(5), 9);
        Bound.lakeBeyond(2, "cross ^1;");
        Bound.lakeBeyond(2, "cross ^10;");
        Bound.lakeBeyond(3, "cross 2;^cross 9;");
        Bound.beyond("cross without", Check.onLake("rude 9 3;").count(5), 5);
    }

    private static void hollow() {
        Bound.of("LAKE", "'hollow' N (1 to 9; once; 3 without)");
        Bound.within("hollow", Bound.lakeWithin("hollow 1;", 1).count(6), 1);
        Bound.within("hollow", Bound.lakeWithin("hollow 9;", 1).count(6), 9);
        Bound.lakeBeyond(2, "hollow ^0;");
        Bound.lakeBeyond(2, "hollow ^10;");
        Bound.lakeBeyond(3, "hollow 1;^hollow 1;");
        Bound.beyond("hollow without", Check.onLake("rude 9 3;").count(6), 3);
    }

    private static void frost() {
        Bound.of("LAKE", "'frost' N (1 to 30; once; 6 without)");
        Bound.within("frost", Bound.lakeWithin("frost 1;", 1).count(7), 1);
        Bound.within("frost", Bound.lakeWithin("frost 30;", 1).count(7), 30);
        Bound.lakeBeyond(2, "frost ^0;");
        Bound.lakeBeyond(2, "frost ^31;");
        Bound.lakeBeyond(3, "frost 30;^frost 30;");
        Bound.beyond("frost without", Check.onLake("rude 9 3;").count(7), 6);
    }

    private static void places() {
        Bound.of("LAKE", "X 0 to WIDE less 1, Y 0 to HIGH less 1");
        Bound.lakeWithin("lake 3 4 5;ice 0 0 1;ice 2 3 1;person a 0 0 1 0;person b 2 3 1 0;", 5);
        Bound.lakeWithin("lake 8 2 5;ice 7 1 1;person b 7 1 1 0;", 3);
        Bound.lakeWithin("lake 2 8 5;ice 1 7 1;person b 1 7 1 0;", 3);
        Bound.lakeBeyond(2, "lake 3 4 5;ice ^3 3 1;");
        Bound.lakeBeyond(2, "lake 3 4 5;ice 2 ^4 1;");
        Bound.lakeBeyond(2, "lake 3 4 5;person a ^3 3 1 0;");
        Bound.lakeBeyond(2, "lake 3 4 5;person a 2 ^4 1 0;");
        Bound.lakeBeyond(2, "lake 8 2 5;ice ^8 1 1;");
        Bound.lakeBeyond(2, "lake 2 8 5;ice 1 ^8 1;");
        Bound.lakeBeyond(2, "lake 8 2 5;person a 7 ^2 1 0;");
        Bound.lakeBeyond(2, "lake 2 8 5;person a ^2 7 1 0;");
    }

    private static void persons() {
        loads();
        names();
        namesOnce();
        six();
    }

    private static void loads() {
        Bound.of("LAKE", "'person' NAME X Y LOAD TEMPER (1 to 5; 0 to 8)");
        IceManners x = Bound.lakeWithin("person a 0 0 1 0;person b 1 0 5 8;", 2);
        Bound.within("least load", x.person(0, 2), 1);
        Bound.within("least temper", x.person(0, 3), 0);
        Bound.within("most load", x.person(1, 2), 5);
        Bound.within("most temper", x.person(1, 3), 8);
        Bound.lakeBeyond(2, "person a 0 0 ^0 0;");
        Bound.lakeBeyond(2, "lake 5 5 9;person a 0 0 ^6 0;");
        Bound.lakeBeyond(2, "person a 0 0 1 ^9;");
        Bound.lakeBeyond(1, "person a 0 0 1^;");
    }

    private static void names() {
        Bound.of("LAKE", "NAME: a WORD, none of those told here, in a BOOK or a SENTENCE");
        for (String word : FIXED) {
            Bound.lakeBeyond(1, "person ^" + word + " 0 0 1 0;");
            String longer = word.length() < 7 ? word + "s" : "x" + word.substring(1);
            Bound.lakeWithin("person " + longer + " 0 0 1 0;", 1);
            Bound.lakeWithin("person q" + word.substring(1) + " 0 0 1 0;", 1);
        }
        // told in the document, but in no text
        for (String word : new String[] {"fell", "at", "on", "side", "fair", "go", "hours", "bow", "praise", "swear", "n"}) {
            Bound.lakeWithin("person " + word + " 0 0 1 0;", 1);
        }
    }

    private static void namesOnce() {
        Bound.of("LAKE", "told once. 6 PERSONS");
        Bound.lakeWithin("person ab 0 0 1 0;person ba 0 0 1 0;person aab 0 0 1 0;person a 0 0 1 0;", 4);
        Bound.lakeWithin("person abcdefg 0 0 1 0;person abcdef 0 0 1 0;person bbcdefg 0 0 1 0;", 3);
        Bound.lakeBeyond(3, "person ab 0 0 1 0;person ^ab 1 1 1 0;");
        Bound.lakeBeyond(3, "person ab 0 0 1 0;person ba 0 0 1 0;person ^ab 1 1 1 0;");
        Bound.lakeBeyond(3, "person abcdefg 0 0 1 0;person ^abcdefg 1 1 1 0;");
    }

    private static void six() {
        Bound.of("LAKE", "6 PERSONS at most, numbered from 0");
        String six = "person f 0 0 1 0;person e 1 0 1 0;person d 2 0 1 0;person c 3 0 1 0;person b 4 0 1 0;person a 4 1 1 0;";
        IceManners x = Bound.lakeWithin(six, 6);
        Bound.within("persons", x.count(2), 6);
        Bound.within("the first", x.cell(0, 0, 2), 1);
        Bound.within("the last", x.cell(4, 1, 2), 32);
        Bound.lakeWithin(six + "cross 2;", 7);
        Bound.lakeBeyond(4, six + "^person g 0 1 1 0;");
        Bound.lakeBeyond(4, six + "cross 2;^person g 0 1 1 0;");
    }

    // ---- BOOK

    private static void books() {
        bookBytes();
        bookLines();
        bookActs();
        bookHours();
        sides();
    }

    private static void bookBytes() {
        IceManners x = two();
        Bound.of("BOOK", "A BOOK is a text of at most 400 bytes");
        Bound.bookWithin(x, Bound.pad("a bows;", 400));
        Bound.bookWithin(x, "a bows;" + Check.repeat(" ", 393));
        Bound.bookWithin(x, Check.repeat("\n", 400));
        Bound.bookBeyond(x, 1, Bound.pad("a bows^;", 401));
        Bound.bookBeyond(x, 1, "a bows;" + Check.repeat(" ", 393) + "^ ");
        Bound.bookBeyond(x, 1, Check.repeat("\n", 400) + "^\n");
        Bound.bookBeyond(x, 1, Check.repeat("\n", 400) + "^" + Check.repeat("\n", 540));
        Bound.beyond("nothing was lived", x.undo(), -1);
    }

    private static void bookLines() {
        IceManners x = two();
        Bound.of("BOOK", "{ LINE ; }, 40 at most");
        Bound.bookWithin(x, "");
        Bound.within("none", x.told(1), 0);
        Bound.bookWithin(x, "a bows;");
        Bound.within("one", x.told(1), 1);
        String forty = Check.repeat("hour 1;", 40);
        Bound.bookWithin(x, forty);
        Bound.within("forty", x.told(1), 40);
        Bound.bookWithin(x, Check.repeat("hour 1;", 39) + "hour 60;");
        Bound.bookWithin(x, forty + "\n\n");
        Bound.bookBeyond(x, 4, forty + "^hour 1;");
        Bound.bookBeyond(x, 4, forty + "^a bows;");
        Bound.bookBeyond(x, 1, "a bows^");
        Bound.bookBeyond(x, 1, "a bows;^;");
        Bound.bookBeyond(x, 1, forty + "^;");
        Bound.beyond("nothing was lived", x.undo(), -1);
    }

    private static void bookActs() {
        IceManners x = two();
        Bound.of("BOOK", "PERSON ( SIDE (he goes) | 'bows' | 'praises' PERSON | 'swears' ) | 'hour' N");
        Bound.bookWithin(x, "b east;b bows;a praises b;b swears;hour 1;a south;");
        Bound.within("lines", x.told(1), 6);
        Bound.bookBeyond(x, 1, "a ^b;");
        Bound.bookBeyond(x, 1, "a ^hour;");
        Bound.bookBeyond(x, 1, "a ^fallen;");
        Bound.bookBeyond(x, 1, "a^;");
        Bound.bookBeyond(x, 1, "a bows ^b;");
        Bound.bookBeyond(x, 1, "a swears ^b;");
        Bound.bookBeyond(x, 1, "a east ^a;");
        Bound.bookBeyond(x, 1, "a praises^;");
        Bound.bookBeyond(x, 1, "a praises b ^b;");
        Bound.bookBeyond(x, 1, "hour^;");
        Bound.bookBeyond(x, 1, "hour 1 ^1;");
        Bound.bookBeyond(x, 1, "hour ^a;");
        Bound.bookBeyond(x, 1, "^bows a;");
        Bound.bookBeyond(x, 1, "^1 bows;");
    }

    private static void bookHours() {
        IceManners x = two();
        Bound.of("BOOK", "'hour' N (1 to 60)");
        Bound.bookWithin(x, "hour 1;");
        Bound.within("hour then", x.told(2), 1);
        Bound.bookWithin(x, "hour 060;");
        Bound.within("hour then", x.told(2), 60);
        Bound.bookBeyond(x, 2, "hour ^0;");
        Bound.bookBeyond(x, 2, "hour ^61;");
        Bound.bookBeyond(x, 2, "hour ^999;");
    }

    private static void sides() {
        Bound.of("BOOK", "SIDE: 'east', 'south', 'west', 'north', numbered from 0 (X more, Y more, X less, Y less)");
        String[] sides = {"east", "south", "west", "north"};
        int[] moreX = {1, 0, -1, 0};
        int[] moreY = {0, 1, 0, -1};
        for (int side = 0; side < 4; side++) {
            IceManners x = Check.onLake("lake 3 3 5;person a 1 1 1 0;");
            Bound.within(sides[side], Check.book(x, "a " + sides[side] + ";", 1), -1);
            Bound.within("x", x.person(0, 0), 1 + moreX[side]);
            Bound.within("y", x.person(0, 1), 1 + moreY[side]);
            Bound.beyond(sides[side] + " of the last cell", Check.book(x, "a " + sides[side] + ";", 1), 0);
            Bound.beyond("there is no cell", x.told(0), 2);
            x.undo();
            Bound.within("by number", x.go(0, side), 0);
            Bound.within("x", x.person(0, 0), 1 + moreX[side]);
            Bound.within("y", x.person(0, 1), 1 + moreY[side]);
            Bound.beyond("by number", x.go(0, side), 2);
        }
    }

    // ---- SENTENCE

    private static void sentences() {
        sentenceBytes();
        conds();
        numbersOfOnes();
        withinOneAnother();
    }

    private static void sentenceBytes() {
        IceManners x = two();
        Bound.of("SENTENCE", "A SENTENCE is a text of at most 200 bytes");
        Bound.sentenceWithin(x, Bound.pad("not fallen", 200), 2, 3);
        Bound.sentenceWithin(x, "not fallen" + Check.repeat(" ", 190), 2, 3);
        Bound.sentenceBeyond(x, 1, Bound.pad("(fallen^)", 201));
        Bound.sentenceBeyond(x, 1, "not fallen" + Check.repeat(" ", 190) + "^ ");
        Bound.sentenceBeyond(x, 1, Check.repeat(" ", 200) + "^ fallen");
        Bound.beyond("the sentence stays", Check.saidOf(x), 3);
    }

    private static void conds() {
        IceManners x = two();
        Bound.of("SENTENCE", "COND: ALL { 'or' ALL }. ALL: ONE { 'and' ONE }. ONE: 'not' ONE | ( COND )");
        // number 0 or (number 1 and fallen): 'and' joins ahead of 'or', on either side of it
        Bound.sentenceWithin(x, "number=0 or number=1 and fallen", 3, 1);
        Bound.sentenceWithin(x, "number=1 and fallen or number=0", 3, 1);
        Bound.sentenceWithin(x, "(number=0 or number=1)and fallen", 4, 0);
        Bound.sentenceWithin(x, "not fallen and number=1", 3, 2);
        Bound.sentenceWithin(x, "not(fallen and number=1)", 4, 3);
        Bound.sentenceWithin(x, "not not fallen or not fallen", 5, 3);
        Bound.sentenceBeyond(x, 1, "^");
        Bound.sentenceBeyond(x, 1, "fallen or^");
        Bound.sentenceBeyond(x, 1, "fallen and ^or fallen");
        Bound.sentenceBeyond(x, 1, "^and fallen");
        Bound.sentenceBeyond(x, 1, "fallen ^fallen");
        Bound.sentenceBeyond(x, 1, "fallen ^not fallen");
        Bound.sentenceBeyond(x, 1, "not^");
        Bound.sentenceBeyond(x, 1, "not ^and fallen");
        Bound.sentenceBeyond(x, 1, "(^)");
        Bound.sentenceBeyond(x, 1, "(fallen^");
        Bound.sentenceBeyond(x, 1, "(fallen)^)");
        Bound.sentenceBeyond(x, 1, "fallen^;");
    }

    private static void numbersOfOnes() {
        IceManners x = two();
        Bound.of("SENTENCE", "20 ONES, 8 within one another");
        String nineteen = "fallen" + Check.repeat(" or by a", 18);
        Bound.sentenceWithin(x, nineteen + " or by b", 20, 3);
        Bound.sentenceWithin(x, "not " + nineteen, 20, 3);
        Bound.sentenceWithin(x, "(" + nineteen + ")", 20, 3);
        Bound.sentenceWithin(x, nineteen + "\nand by b", 20, 3);
        Bound.sentenceWithin(x, "fallen" + Check.repeat(" or fallen", 18) + " or number=1", 20, 2);
        Bound.sentenceWithin(x, "number=1" + Check.repeat(" or fallen", 19), 20, 2);
        Bound.sentenceBeyond(x, 4, nineteen + " or by b or ^by b");
        Bound.sentenceBeyond(x, 4, "not " + nineteen + " or ^by b");
        Bound.sentenceBeyond(x, 4, "(" + nineteen + " or ^not by b)");
        Bound.sentenceBeyond(x, 4, nineteen + " or not ^by b");
        Bound.sentenceBeyond(x, 4, nineteen + " or (^by b)");
    }

    private static void withinOneAnother() {
        IceManners x = two();
        Bound.of("SENTENCE", "8 within one another");
        Bound.sentenceWithin(x, Check.repeat("not ", 7) + "fallen", 8, 3);
        Bound.sentenceWithin(x, Check.repeat("(", 7) + "by a" + Check.repeat(")", 7), 8, 3);
        Bound.sentenceWithin(x, Check.repeat("not(", 3) + "not by a" + Check.repeat(")", 3), 8, 3);
        Bound.sentenceWithin(x, "(((((((by a or by b and by a)))))))and not not not not not not not by a", 18, 0);
        Bound.sentenceBeyond(x, 4, Check.repeat("not ", 8) + "^fallen");
        Bound.sentenceBeyond(x, 4, Check.repeat("(", 8) + "^by a" + Check.repeat(")", 8));
        Bound.sentenceBeyond(x, 4, Check.repeat("not(", 4) + "^by a" + Check.repeat(")", 4));
        Bound.sentenceBeyond(x, 4, Check.repeat("(", 7) + "not ^by a" + Check.repeat(")", 7));
        Bound.sentenceBeyond(x, 4, Check.repeat("(", 7) + "by a or (^by b)" + Check.repeat(")", 7));
    }

    private static void ones() {
        bowed();
        by();
        over();
        praised();
        numbersAndSigns();
        iceThere();
        lastPerson();
        fallen();
    }

    private static void bowed() {
        Bound.of("SENTENCE", "'bowed' (in this HOUR)");
        IceManners x = two();
        x.bow(1);
        Bound.sentenceWithin(x, "bowed", 1, 2);
        x.hours(1);
        Bound.beyond("in the next HOUR", Check.saidOf(x), 0);
    }

    private static void by() {
        Bound.of("SENTENCE", "'by' PERSON (FAR 1 at most, where they are, or fell; himself, too)");
        IceManners x = Check.onLake("rude 9 0;person a 2 2 1 0;person b 2 3 1 0;person c 3 3 1 0;person d 2 2 1 0;person e 0 2 1 0;");
        Bound.sentenceWithin(x, "by a", 1, 1 + 2 + 8);
        Bound.beyond("c is 2 far by X and Y together, e by X", Check.saidOf(x) & (4 + 16), 0);
        Bound.sentenceWithin(x, "by e", 1, 16);
        x.swear(0);
        Bound.within("a and d fell", x.now(1), 1 + 8);
        Bound.sentenceWithin(x, "by a", 1, 1 + 2 + 8);
        Bound.sentenceWithin(x, "by b", 1, 1 + 2 + 4 + 8);
        x.go(1, 1);
        Bound.sentenceWithin(x, "by a", 1, 1 + 8);
        Bound.beyond("b went to 2 far from where a fell", Check.saidOf(x) & 2, 0);
    }

    private static void over() {
        Bound.of("SENTENCE", "'over' PERSON (if he swore now, that one would fall)");
        IceManners x = Check.onLake("rude 2 1;person a 2 2 1 0;person b 2 3 3 0;person c 1 2 4 0;");
        Bound.sentenceWithin(x, "over c", 1, 1 + 4);
        Bound.beyond("b is 2 far from c", Check.saidOf(x) & 2, 0);
        Bound.sentenceWithin(x, "over b", 1, 0);
        Bound.beyond("b's 3 would be on 3", Check.saidOf(x), 0);
        x.swear(1);
        Bound.sentenceWithin(x, "over b", 1, 1 + 2);
        x.swear(1);
        Bound.within("b fell, and a by him: 1 and 1 less 2", x.now(1), 2);
        Bound.sentenceWithin(x, "over b", 1, 0);
        Bound.beyond("who has fallen falls no more, nor swears", Check.saidOf(x), 0);
    }

    private static void praised() {
        Bound.of("SENTENCE", "how often he was praised in this HOUR");
        IceManners x = two();
        x.praise(0, 1);
        x.praise(0, 1);
        Bound.sentenceWithin(x, "praised=2", 1, 2);
        Bound.sentenceWithin(x, "praised>1", 1, 2);
        Bound.sentenceWithin(x, "praised<3", 1, 3);
        Bound.beyond("a third one", Check.sentence(x, "praised>2"), 1);
        Bound.beyond("a third one", Check.saidOf(x), 0);
        x.hours(1);
        Bound.sentenceWithin(x, "praised=0", 1, 3);
        Bound.beyond("in the next HOUR", Check.sentence(x, "praised>0"), 1);
        Bound.beyond("in the next HOUR", Check.saidOf(x), 0);
    }

    private static void numbersAndSigns() {
        Bound.of("SENTENCE", "( 'temper' | 'load' | 'ice' | 'praised' | 'number' ) SIGN NUMBER");
        String[] what = {"temper", "load", "ice", "praised", "number"};
        int[] is = {4, 3, 7, 0, 0};
        for (int k = 0; k < what.length; k++) {
            IceManners x = Check.onLake("lake 2 2 7;person a 0 0 3 4;");
            for (int n = Math.max(0, is[k] - 1); n <= is[k] + 1; n++) {
                Bound.sentenceWithin(x, what[k] + "<" + n, 1, is[k] < n ? 1 : 0);
                Bound.sentenceWithin(x, what[k] + "=" + n, 1, is[k] == n ? 1 : 0);
                Bound.sentenceWithin(x, what[k] + ">" + n, 1, is[k] > n ? 1 : 0);
            }
            Bound.sentenceWithin(x, what[k] + "<999", 1, 1);
            Bound.sentenceWithin(x, what[k] + ">999", 1, 0);
            Bound.sentenceBeyond(x, 1, what[k] + "<^1000");
            Bound.sentenceBeyond(x, 1, what[k] + "^");
            Bound.sentenceBeyond(x, 1, what[k] + " ^4");
            Bound.sentenceBeyond(x, 1, what[k] + "<^=4");
            Bound.sentenceBeyond(x, 1, what[k] + "=^a");
            Bound.sentenceBeyond(x, 1, what[k] + "=^");
        }
        for (String word : new String[] {"frost", "cross", "hollow", "rude", "hour", "person", "lake"}) {
            Bound.sentenceBeyond(two(), 1, "^" + word + "=1");
        }
    }

    private static void iceThere() {
        Bound.of("SENTENCE", "ICE where he is, or fell");
        IceManners x = Check.onLake("lake 2 2 7;rude 6 0;person a 0 0 3 4;person b 1 1 1 0;");
        Bound.sentenceWithin(x, "ice=7", 1, 3);
        x.swear(0);
        Bound.sentenceWithin(x, "ice=1 and fallen", 2, 1);
        Bound.beyond("he who has not fallen is on 7", Check.saidOf(x) & 2, 0);
        Bound.sentenceWithin(x, "temper=0 and load=3", 2, 1);
        x.hours(6);
        Bound.sentenceWithin(x, "ice=2", 1, 1);
        Bound.beyond("frost came to where he fell, too", x.cell(0, 0, 0), 2);
    }

    private static void fallen() {
        Bound.of("SENTENCE", "'fallen' | 'bowed' (in this HOUR)");
        IceManners x = Check.onLake("rude 9 0;person a 2 2 1 5;person b 2 3 3 0;");
        Bound.sentenceWithin(x, "fallen", 1, 0);
        x.bow(0);
        x.swear(0);
        Bound.sentenceWithin(x, "not fallen", 2, 2);
        Bound.beyond("who fell", Check.sentence(x, "fallen"), 1);
        Bound.beyond("who fell", Check.saidOf(x), 1);
        Bound.beyond("who fell and had bowed", Check.sentence(x, "fallen and bowed"), 2);
        Bound.beyond("who fell and had bowed", Check.saidOf(x), 1);
    }

    private static void lastPerson() {
        Bound.of("SENTENCE", "It is said of PERSONS");
        StringBuilder six = new StringBuilder();
        for (int p = 0; p < 6; p++) {
            six.append("person ").append((char) ('a' + p)).append(' ').append(p % 5).append(' ').append(p / 5).append(" 1 0;");
        }
        IceManners x = Check.onLake(six.toString());
        Bound.sentenceWithin(x, "number>4", 1, 32);
        Bound.sentenceWithin(x, "number<1", 1, 1);
        Bound.sentenceWithin(x, "not fallen", 2, 63);
        Bound.sentenceWithin(x, "number>5", 1, 0);
        Bound.beyond("nobody is the seventh", x.said(-1), 0);
        IceManners none = new IceManners();
        Bound.sentenceWithin(none, "not fallen", 2, 0);
        Bound.beyond("there are no PERSONS", none.said(0), -1);
    }

    // ---- FAULTS

    private static void faults() {
        firstAlong();
        leastOfOne();
        atTheEnd();
        mostBytes();
        readWhole();
        badNumbers();
    }

    private static void firstAlong() {
        Bound.of("FAULTS", "the first along the text");
        Bound.lakeWithin("lake 2 2 2;cross 2;frost 1;", 3);
        Bound.lakeBeyond(2, "lake 2 ^9 2;cross 1;frost 1");
        Bound.lakeBeyond(2, "lake 2 2 2;cross ^1;frost 1");
        Bound.lakeBeyond(1, "lake 2 2 2;cross 2;frost 1^");
        Bound.lakeBeyond(3, "cross 2;^cross 10;");
        Bound.bookBeyond(two(), 3, "^c bows;a jumps;hour 0;");
        Bound.sentenceBeyond(two(), 3, "by ^c or load < a");
    }

    private static void leastOfOne() {
        Bound.of("FAULTS", "of one TOKEN the least");
        String cell = "ice 0 0 4;person a 0 0 ";
        Bound.lakeWithin(cell + "4 0;", 2);
        Bound.lakeBeyond(3, cell + "^5 0;");
        Bound.lakeBeyond(2, cell + "^6 0;");
        IceManners x = two();
        String forty = Check.repeat("a bows;", 40);
        Bound.bookBeyond(x, 4, forty + "^b bows;");
        Bound.bookBeyond(x, 3, forty + "^c bows;");
        Bound.bookBeyond(x, 1, forty + "^bows;");
        Bound.bookBeyond(x, 1, forty + "^east;");
        Bound.bookBeyond(x, 1, forty + "^7;");
        String twenty = "fallen" + Check.repeat(" or by a", 19);
        Bound.sentenceBeyond(x, 4, twenty + " and ^not");
        Bound.sentenceBeyond(x, 1, twenty + " and ^a");
        Bound.sentenceBeyond(x, 1, twenty + " and ^)");
        Bound.sentenceBeyond(x, 4, Check.repeat("not ", 8) + "^by c");
        Bound.sentenceBeyond(x, 1, Check.repeat("not ", 8) + "^c");
    }

    private static void atTheEnd() {
        Bound.of("FAULTS", "1 no TOKEN, or one that can't come (at it; the end: how many bytes there are");
        Bound.lakeWithin("lake 2 2 2; ", 1);
        Bound.lakeBeyond(1, "lake^");
        Bound.lakeBeyond(1, "lake 2 2 2  \n^");
        Bound.lakeBeyond(1, "lake 2 2 2;^? ");
        Bound.lakeBeyond(1, Bound.pad("lake 2 2 2^", 899));
        Bound.lakeBeyond(1, Bound.pad("lake 2 2 2^", 900));
        Bound.bookBeyond(two(), 1, "a^");
        Bound.bookBeyond(two(), 1, "a bows \n^");
        Bound.bookBeyond(two(), 1, Bound.pad("a bows^", 400));
        Bound.sentenceBeyond(two(), 1, "^");
        Bound.sentenceBeyond(two(), 1, " \n ^");
        Bound.sentenceBeyond(two(), 1, Bound.pad("(fallen^", 200));
    }

    private static void mostBytes() {
        Bound.of("FAULTS", "the most bytes told, if there are more and no FAULT is ahead");
        Bound.lakeWithin(Bound.pad("cross 9;", 900), 1);
        Bound.lakeBeyond(1, Bound.pad("cross 9^;", 901));
        Bound.lakeBeyond(1, Bound.pad("cross ^99;", 903));
        Bound.lakeBeyond(2, Bound.pad("cross ^99;", 902));
        Bound.lakeBeyond(2, "cross ^1;" + Check.repeat(" ", 932));
        Bound.bookBeyond(two(), 1, Bound.pad("hour ^99;", 403));
        Bound.bookBeyond(two(), 2, Bound.pad("hour ^99;", 402));
        Bound.bookBeyond(two(), 3, "^c bows;" + Check.repeat(" ", 500));
        Bound.bookBeyond(two(), 1, Bound.pad("a bows^;c bows;", 408));
        Bound.sentenceBeyond(two(), 1, Bound.pad("by ^c", 201));
        Bound.sentenceBeyond(two(), 3, Bound.pad("by ^c ", 201));
        Bound.sentenceBeyond(two(), 1, "fallen ^fallen" + Check.repeat(" ", 500));
    }

    private static void readWhole() {
        Bound.of("FAULTS", "TOKENS that begin ahead of it are read whole");
        Bound.lakeWithin(Bound.pad("frost 30;", 900), 1);
        // cut at the most bytes, these would be 'frost', 3 and 'person' and what follows would not come
        Bound.lakeBeyond(1, Bound.pad("^frosts", 901));
        Bound.lakeBeyond(1, Check.repeat(" ", 899) + "^frosts 1;");
        Bound.lakeBeyond(2, Bound.pad("frost ^31", 901));
        Bound.lakeBeyond(1, Bound.pad("frost ^3000", 903));
        Bound.lakeBeyond(1, Bound.pad("frost ^3a", 901));
        Bound.bookBeyond(two(), 1, Bound.pad("a ^bowsa", 401));
        Bound.bookBeyond(two(), 3, Bound.pad("a praises ^bb", 401));
        Bound.sentenceBeyond(two(), 3, Bound.pad("by ^aa", 201));
        Bound.sentenceBeyond(two(), 1, Bound.pad("^fallena", 201));
        // read whole and as told, it is not at fault itself
        Bound.lakeBeyond(1, Check.repeat(" ", 893) + "frost 3^0;");
        Bound.bookBeyond(two(), 1, Check.repeat(" ", 397) + "a b^ows;");
        Bound.sentenceBeyond(two(), 1, Check.repeat(" ", 197) + "fal^len");
    }

    private static void badNumbers() {
        Bound.of("FAULTS", "2 a NUMBER that is not as told (at it)");
        Bound.lakeWithin("lake 2 2 2;cross 002;", 2);
        Bound.lakeBeyond(2, "lake 2 2 2;cross ^001;");
        Bound.lakeBeyond(2, "lake 2 2 2;cross   ^999;");
        Bound.lakeBeyond(1, "lake 2 2 2;cross ^1000;");
    }

    private static void moreFaults() {
        mistoldNames();
        behind();
        toldAgain();
        icedAgain();
        tooHeavy();
        tooMany();
        tooManyOnes();
    }

    private static void mistoldNames() {
        IceManners x = two();
        Bound.of("FAULTS", "3 a NAME told twice, not told, or of another sort");
        Bound.lakeWithin("person a 0 0 1 0;person b 0 0 1 0;", 2);
        Bound.lakeBeyond(3, "person a 0 0 1 0;person ^a 0 0 1 0;");
        Bound.bookWithin(x, "b praises a;");
        Bound.bookBeyond(x, 3, "^c praises a;");
        Bound.bookBeyond(x, 3, "b praises ^c;");
        Bound.bookBeyond(x, 3, "b praises ^ab;");
        Bound.sentenceWithin(x, "by a or over b", 2, 3);
        Bound.sentenceBeyond(x, 3, "by ^c");
        Bound.sentenceBeyond(x, 3, "by a or over ^aa");
    }

    private static void behind() {
        Bound.of("FAULTS", "'lake' behind a LINE with X, Y, 'ice' behind a PERSON");
        Bound.lakeWithin("frost 1;lake 2 2 2;ice 1 1 1;rude 1 1;ice 0 0 1;person a 1 0 1 0;", 6);
        Bound.lakeBeyond(3, "frost 1;ice 1 1 1;^lake 2 2 2;");
        Bound.lakeBeyond(3, "frost 1;person a 1 0 1 0;^lake 2 2 2;");
        Bound.lakeBeyond(3, "person a 1 0 1 0;rude 1 1;^ice 0 0 1;");
        Bound.lakeBeyond(3, "person a 1 0 1 0;^ice");
        Bound.lakeBeyond(3, "person a 1 0 1 0;^lake");
    }

    private static void toldAgain() {
        Bound.of("FAULTS", "what is told once told again (at the WORD)");
        String[] once = {"lake 2 2 2;", "rude 1 1;", "cross 2;", "hollow 1;", "frost 1;"};
        for (String line : once) {
            Bound.lakeWithin(line, 1);
            Bound.lakeBeyond(3, line + "^" + line);
            Bound.lakeBeyond(3, line + " \n^" + line.substring(0, line.indexOf(' ')));
        }
        Bound.lakeWithin(String.join("", once), 5);
    }

    private static void icedAgain() {
        Bound.of("FAULTS", "a cell of 'ice' told again (at its Y)");
        Bound.lakeWithin("ice 1 2 3;ice 2 1 3;ice 1 1 3;ice 2 2 3;", 4);
        Bound.lakeBeyond(3, "ice 1 2 3;ice 2 1 3;ice 1 1 3;ice 2 2 3;ice 1 ^2 4;");
        Bound.lakeBeyond(3, "ice 1 2 3;ice 01  ^002 44;");
        Bound.lakeBeyond(3, "lake 8 8 1;ice 7 7 3;ice 7 ^7 3;");
        Bound.lakeBeyond(2, "ice 1 2 3;ice 1 ^5 3;");
    }

    private static void tooHeavy() {
        Bound.of("FAULTS", "a LOAD that the cell does not bear besides those told there (at it)");
        Bound.lakeWithin("person a 0 0 5 0;person b 1 0 5 0;", 2);
        Bound.lakeWithin("person a 0 0 2 0;person b 0 0 3 0;", 2);
        Bound.lakeWithin("ice 0 0 1;person a 0 0 1 0;", 2);
        Bound.lakeWithin("lake 2 2 9;person a 1 1 5 0;person b 1 1 3 0;person c 1 1 1 0;", 4);
        Bound.lakeBeyond(3, "person a 0 0 2 0;person b 0 0 ^4 0;");
        Bound.lakeBeyond(3, "ice 0 0 1;person a 0 0 ^2 0;");
        Bound.lakeBeyond(3, "ice 0 0 0;person a 0 0 ^1 0;");
        Bound.lakeBeyond(3, "lake 2 2 9;person a 1 1 5 0;person b 1 1 3 0;person c 1 1 ^2 0;");
        Bound.lakeBeyond(3, "ice 0 0 1;person a 0 0 ^2 9;");
    }

    private static void tooMany() {
        Bound.of("FAULTS", "4 one PERSON more than there may be, a 41st LINE of a BOOK (at the LINE's first WORD)");
        StringBuilder six = new StringBuilder();
        for (int p = 0; p < 6; p++) {
            six.append("person ").append((char) ('a' + p)).append(" 0 ").append(p % 5).append(" 1 0;");
        }
        Bound.lakeWithin(six.toString(), 6);
        Bound.lakeBeyond(4, six + "^person");
        Bound.lakeBeyond(4, six + "  ^person a 9 9 9 9;");
        Bound.lakeBeyond(4, six + "^person lake");
        String forty = Check.repeat("b bows;", 40);
        Bound.bookWithin(two(), Check.repeat("hour 1;", 40));
        Bound.bookBeyond(two(), 4, forty + "^a");
        Bound.bookBeyond(two(), 4, forty + " ^hour 99;");
        Bound.bookBeyond(two(), 4, forty + "^a jumps;");
    }

    private static void tooManyOnes() {
        Bound.of("FAULTS", "a 21st ONE, a ninth within (at its first TOKEN)");
        IceManners x = two();
        String twenty = "by a" + Check.repeat(" or by a", 19);
        Bound.sentenceWithin(x, twenty, 20, 3);
        Bound.sentenceBeyond(x, 4, twenty + " or ^load = 1");
        Bound.sentenceBeyond(x, 4, twenty + " or ^(fallen)");
        Bound.sentenceBeyond(x, 1, twenty + " or^");
        String seven = Check.repeat("not ", 7);
        Bound.sentenceWithin(x, seven + "load = 1", 8, 0);
        Bound.sentenceBeyond(x, 4, seven + "not ^load = 1");
        Bound.sentenceBeyond(x, 4, seven + "(^(by a))");
        Bound.sentenceBeyond(x, 1, seven + "not^");
        Bound.sentenceBeyond(x, 1, seven + "(^)");
    }
}
