import java.io.IOException;
import java.nio.file.Files;
import java.nio.file.Path;
import java.util.Set;
import java.util.TreeSet;

/**
 * A boundary case: the promise or term it is of, the document's own words for it, and what is due just within it and
 * just beyond. The words are looked up in the document, so that no test is of a sentence that is not there.
 */
final class Bound {
    private static final String DOC = read(Path.of("../shared/DOC.md"));
    private static final Set<String> WHOSE = new TreeSet<>();
    private static String name = "";
    private static boolean hasWithin;
    private static boolean hasBeyond;
    private static int bounds;

    private Bound() {
    }

    private static String read(Path file) {
        try {
            return Files.readString(file);
        } catch (IOException e) {
            throw new IllegalStateException("the document is not at " + file, e);
        }
    }

    /** Begins a case. Whose: "Promise 1" to "Promise 36"; any other is one of the terms. */
    static void of(String whose, String words) {
        close();
        name = whose + ", '" + words + "'";
        hasWithin = false;
        hasBeyond = false;
        bounds++;
        WHOSE.add(whose);
        Check.due(name + " is told in the document", part(whose).contains(words), true);
    }

    private static String part(String whose) {
        String head = whose.startsWith("Promise ") ? "## " + whose + ":" : "## Terms";
        int from = DOC.indexOf("\n" + head);
        int to = head.equals("## Terms") ? DOC.indexOf("\n## Promise 1:") : DOC.indexOf("\n## ", from + 1);
        return from < 0 || to < 0 ? "" : DOC.substring(from, to);
    }

    private static void close() {
        if (!name.isEmpty()) {
            Check.due(name + " has a case within", hasWithin, true);
            Check.due(name + " has a case beyond", hasBeyond, true);
        }
    }

    static void within(String what, long got, long want) {
        hasWithin = true;
        Check.due(name + ", within: " + what, got, want);
    }

    static void beyond(String what, long got, long want) {
        hasBeyond = true;
        Check.due(name + ", beyond: " + what, got, want);
    }

    static void within(String what, boolean got, boolean want) {
        within(what, got ? 1 : 0, want ? 1 : 0);
    }

    static void beyond(String what, boolean got, boolean want) {
        beyond(what, got ? 1 : 0, want ? 1 : 0);
    }

    // ---- texts: where a FAULT is due, a ^ stands ahead of its place and is left out

    static IceManners lakeWithin(String text, int lines) {
        IceManners x = new IceManners();
        within("lines of '" + text + "'", Check.lake(x, text), lines);
        within("fault of '" + text + "'", x.fault(), 0);
        within("the tape behind '" + text + "'", x.count(8), 0);
        return x;
    }

    static void lakeBeyond(int kind, String marked) {
        IceManners x = new IceManners();
        String text = unmarked(marked);
        beyond("place in '" + text + "'", Check.lake(x, text), -1 - place(marked));
        failed(x, kind, text);
    }

    static void bookWithin(IceManners x, String text) {
        within("'" + text + "' is not wrong", Check.book(x, text, 0), -1);
        within("fault of '" + text + "'", x.fault(), 0);
        within("the tape behind '" + text + "'", x.count(8), 0);
    }

    static void bookBeyond(IceManners x, int kind, String marked) {
        String text = unmarked(marked);
        beyond("place in '" + text + "'", Check.book(x, text, 1), -2 - place(marked));
        failed(x, kind, text);
    }

    /** Of whom it is said, as bits. */
    static void sentenceWithin(IceManners x, String text, int ones, int said) {
        within("ones of '" + text + "'", Check.sentence(x, text), ones);
        within("fault of '" + text + "'", x.fault(), 0);
        within("the tape behind '" + text + "'", x.count(8), 0);
        within("said of '" + text + "'", Check.saidOf(x), said);
    }

    static void sentenceBeyond(IceManners x, int kind, String marked) {
        String text = unmarked(marked);
        beyond("place in '" + text + "'", Check.sentence(x, text), -1 - place(marked));
        failed(x, kind, text);
    }

    private static void failed(IceManners x, int kind, String text) {
        beyond("kind in '" + text + "'", x.fault(), kind);
        beyond("the tape behind '" + text + "'", x.count(8), 0);
    }

    private static int place(String marked) {
        int place = marked.indexOf('^');
        if (place < 0 || place != marked.lastIndexOf('^')) {
            throw new IllegalStateException("the test marks no one place: " + marked);
        }
        return place;
    }

    private static String unmarked(String marked) {
        return marked.replace("^", "");
    }

    /** The text with as many blanks ahead of it as it takes to reach a size (the mark is not counted). */
    static String pad(String text, int size) {
        return Check.repeat(" ", size - unmarked(text).length()) + text;
    }

    static void finish() {
        close();
        name = "";
        System.out.println(bounds + " boundary cases of " + WHOSE.size() + " promises and terms");
        Check.finish();
    }

    static boolean hasBoundOf(String whose) {
        return WHOSE.contains(whose);
    }
}
