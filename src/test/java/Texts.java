/** Texts that are read, each with what is due: how many, or the place and the kind of its FAULT. */
final class Texts {
    /** Voters a, b; blocks r 0, p 1 on r, q 2 on p. Every text is read by an object that has it. */
    static final String SMALL = "voter a 1;voter b 2;block r;block p on r;block q on p change a 3;";

    /** All WORDS that a CHAIN, a BOOK and a SENTENCE tell: none of them is a NAME. */
    static final String[] TOLD_WORDS = {"epoch", "voter", "block", "on", "change", "vote", "look",
        "grow", "or", "and", "not", "leaf", "point", "just", "final", "chosen", "under", "height",
        "level", "heft", "number"};

    private Texts() {
    }

    static String times(String text, int n) {
        return text.repeat(n);
    }

    static String blanks(int n) {
        return times(" ", n);
    }

    /** So many LINES of VOTERS aa, ab, .. of WEIGHT 1. */
    static String voters(int n) {
        StringBuilder s = new StringBuilder();
        for (int i = 0; i < n; i++) {
            s.append("voter a").append((char) ('a' + i)).append(" 1;");
        }
        return s.toString();
    }

    /** So many LINES of BLOCKS ra, rb, ..; all but the first are on that one. */
    static String blocks(int n) {
        StringBuilder s = new StringBuilder();
        for (int i = 0; i < n; i++) {
            s.append("block r").append((char) ('a' + i)).append(i == 0 ? ";" : " on ra;");
        }
        return s.toString();
    }

    static void badChain(String text, int kind, int place) {
        FinalLinks x = Check.withChain(SMALL);
        Check.due("chain of " + text, Check.chain(x, text), -1 - place);
        Check.due("fault of " + text, x.fault(), kind);
        Check.due("blocks stay behind " + text, x.count(1), 3);
        Check.due("voters stay behind " + text, x.count(0), 2);
        Check.due("the tape is empty behind " + text, x.count(4), 0);
    }

    static void goodChain(String text, int lines) {
        FinalLinks x = new FinalLinks();
        Check.due("chain of " + text, Check.chain(x, text), lines);
        Check.due("fault of " + text, x.fault(), 0);
        Check.due("the tape is empty behind " + text, x.count(4), 0);
    }

    static void badBook(String text, int kind, int place) {
        FinalLinks x = Check.withChain(SMALL);
        x.grows(2);
        Check.due("book of " + text, Check.book(x, 1, text), -2 - place);
        Check.due("fault of " + text, x.fault(), kind);
        Check.due("no vote by " + text, x.now(3), 0);
        Check.due("the tape is empty behind " + text, x.count(4), 0);
        Check.due("nothing told by " + text, x.told(0), -1);
        Check.due("undo behind " + text, x.undo(), 0);
    }

    static void goodBook(String text, int lines) {
        FinalLinks x = Check.withChain(SMALL);
        Check.due("book of " + text, Check.book(x, 0, text), -1);
        Check.due("fault of " + text, x.fault(), 0);
        Check.due("lines of " + text, x.told(1), lines);
        Check.due("the tape is empty behind " + text, x.count(4), 0);
    }

    static void badSentence(String text, int kind, int place) {
        FinalLinks x = Check.withChain(SMALL);
        Check.sentence(x, "number = 2");
        Check.due("sentence of " + text, Check.sentence(x, text), -1 - place);
        Check.due("fault of " + text, x.fault(), kind);
        Check.due("the tape is empty behind " + text, x.count(4), 0);
        Check.due("it stays behind " + text, x.said(0), 2);
        Check.due("it alone stays behind " + text, x.said(-1), 1);
    }

    static void goodSentence(String text, int ones) {
        FinalLinks x = Check.withChain(SMALL);
        Check.due("sentence of " + text, Check.sentence(x, text), ones);
        Check.due("fault of " + text, x.fault(), 0);
        Check.due("the tape is empty behind " + text, x.count(4), 0);
    }
}
