/** Texts with FAULTS (kinds 1 to 4), each with its place, and those that just have none. */
public final class FaultsTest {
    private static final String SMALL =
            "voter a 1;voter b 2;block r;block p on r;block q on p change a 3;";

    private FaultsTest() {
    }

    public static void main(String[] args) {
        tokensOfChains();
        numbersAndNamesOfChains();
        toldWordsAreNoNames();
        mostOfASort();
        longChains();
        books();
        longBooks();
        sentences();
        longSentences();
        Check.finish("FaultsTest");
    }

    private static String times(String text, int n) {
        return text.repeat(n);
    }

    private static void chain(String text, int kind, int place) {
        FinalLinks x = Check.withChain(SMALL);
        Check.due("chain of " + text, Check.chain(x, text), -1 - place);
        Check.due("fault of " + text, x.fault(), kind);
        Check.due("blocks stay behind " + text, x.count(1), 3);
        Check.due("voters stay behind " + text, x.count(0), 2);
        Check.due("the tape is empty behind " + text, x.count(4), 0);
    }

    private static void goodChain(String text, int lines) {
        FinalLinks x = new FinalLinks();
        Check.due("chain of " + text, Check.chain(x, text), lines);
        Check.due("fault of " + text, x.fault(), 0);
    }

    private static void book(String text, int kind, int place) {
        FinalLinks x = Check.withChain(SMALL);
        x.grows(2);
        Check.due("book of " + text, Check.book(x, 1, text), -2 - place);
        Check.due("fault of " + text, x.fault(), kind);
        Check.due("no vote by " + text, x.now(3), 0);
        Check.due("the tape is empty behind " + text, x.count(4), 0);
        Check.due("nothing told by " + text, x.told(0), -1);
        Check.due("undo behind " + text, x.undo(), 0);
    }

    private static void sentence(String text, int kind, int place) {
        FinalLinks x = Check.withChain(SMALL);
        Check.sentence(x, "number = 2");
        Check.due("sentence of " + text, Check.sentence(x, text), -1 - place);
        Check.due("fault of " + text, x.fault(), kind);
        Check.due("the tape is empty behind " + text, x.count(4), 0);
        Check.due("it stays behind " + text, x.said(0), 2);
    }

    private static void goodSentence(String text, int ones) {
        FinalLinks x = Check.withChain(SMALL);
        Check.due("sentence of " + text, Check.sentence(x, text), ones);
        Check.due("fault of " + text, x.fault(), 0);
    }

    private static void tokensOfChains() {
        goodChain("", 0);
        goodChain(" \n \n", 0);
        goodChain("block r;", 1);
        goodChain("\nblock\n\n r\n;  ", 1);
        goodChain("voter a 1;block r change a 2;block abcdefg on r;", 3);
        goodChain("voter a 007;", 1);
        goodChain("epoch 004;", 1);
        goodChain("voter from 1;block to;", 2);
        chain("x", 1, 0);
        chain(";", 1, 0);
        chain("  ;", 1, 2);
        chain("block", 1, 5);
        chain("block  \n", 1, 8);
        chain("block r", 1, 7);
        chain("block r;;", 1, 8);
        chain("block r;block", 1, 13);
        chain("block r\t;", 1, 7);
        chain("block r\r;", 1, 7);
        chain("block R;", 1, 6);
        chain("block \u00e9;", 1, 6);
        chain("block r;\0", 1, 8);
        chain("block abcdefgh;", 1, 6);
        chain("block r1;", 1, 6);
        chain("block 1r;", 1, 6);
        chain("blockr;", 1, 0);
        chain("block;", 1, 5);
        chain("block 7;", 1, 6);
        chain("block (;", 1, 6);
        chain("blocks r;", 1, 0);
        chain("epoch 1234;", 1, 6);
        chain("epoch2;", 1, 0);
        chain("epoch r;", 1, 6);
        chain("epoch ;", 1, 6);
        chain("voter a b;", 1, 8);
        chain("voter a;", 1, 7);
        chain("voter a -1;", 1, 8);
        chain("vote a r r;", 1, 0);
        chain("block r on r;", 1, 8);
        chain("block r;block s;", 1, 15);
        chain("block r;block s change a 1;", 1, 16);
        chain("block r;block s on;", 1, 18);
        chain("block r;block s on 3;", 1, 19);
        chain("block r;block s on on;", 1, 19);
        chain("block r;block s on r on r;", 1, 21);
        chain("voter a 1;block r change a 1 change a 2;", 1, 29);
        chain("voter a 1;block r change a 1 on r;", 1, 29);
        chain("voter a 1;block r change a;", 1, 26);
        chain("voter a 1;block r change;", 1, 24);
        chain("voter a 1;block r change 1 1;", 1, 25);
    }

    private static void numbersAndNamesOfChains() {
        chain("epoch 0;", 2, 6);
        chain("epoch 5;", 2, 6);
        chain("epoch 000;", 2, 6);
        chain("voter a 10;", 2, 8);
        chain("voter a 999 x", 2, 8);
        chain("voter a 9;block r change a 10;", 2, 27);
        goodChain("epoch 1;voter a 0;voter b 9;block r change b 9;", 4);
        goodChain("epoch 4;", 1);
        chain("voter a 1;epoch 1;", 3, 10);
        chain("epoch 1;epoch 1;", 3, 8);
        chain("block r; epoch", 3, 9);
        chain("voter a 1;voter a 1;", 3, 16);
        chain("block r;block r on r;", 3, 14);
        chain("voter a 1;block a;", 3, 16);
        chain("block a;voter a 1;", 3, 14);
        chain("block r;block s on t;", 3, 19);
        chain("block r;block s on s;", 3, 19);
        chain("voter a 1;block r;block s on a;", 3, 29);
        chain("block r change a 1;voter a 1;", 3, 15);
        chain("block r change r 1;", 3, 15);
        chain("block r;block s on r change r 1;", 3, 28);
        // The first along the text, whatever its kind.
        chain("block r;block s on t change a 99 !", 3, 19);
        chain("voter a 99;voter a 1;", 2, 8);
    }

    private static void toldWordsAreNoNames() {
        String[] words = {"epoch", "voter", "block", "on", "change", "vote", "look", "grow", "or",
            "and", "not", "leaf", "point", "just", "final", "chosen", "under", "height", "level",
            "heft", "number"};
        for (String word : words) {
            chain("voter " + word + " 1;", 1, 6);
            chain("block " + word + ";", 1, 6);
            chain("block r;block s on " + word + ";", 1, 19);
            book("grow " + word + ";", 1, 5);
            sentence("under " + word, 1, 6);
            goodChain("block " + word.charAt(0) + "z" + ";", 1);
        }
    }

    private static String blocks(int n) {
        StringBuilder s = new StringBuilder("block ra;");
        for (int i = 1; i < n; i++) {
            s.append("block r").append((char) ('a' + i)).append(" on ra;");
        }
        return s.toString();
    }

    private static void mostOfASort() {
        StringBuilder voters = new StringBuilder();
        for (int i = 0; i < 8; i++) {
            voters.append("voter ").append((char) ('a' + i)).append(" 1;");
        }
        goodChain(voters.toString(), 8);
        chain(voters + "voter z 1;", 4, 80);
        chain(voters + "  voter", 4, 82);
        chain(voters + "voters", 1, 80);
        chain(voters + "voter 1;", 4, 80);
        goodChain(blocks(20), 20);
        goodChain("epoch 2;" + blocks(20) + voters, 29);
        chain(blocks(20) + "block z on ra;", 4, blocks(20).length());
        chain(blocks(20) + "block", 4, blocks(20).length());
        chain(blocks(20) + "epoch 1;", 3, blocks(20).length());
    }

    private static void longChains() {
        goodChain(times(" ", 892) + "block r;", 1);
        goodChain("block r;" + times("\n", 892), 1);
        chain("block r;" + times("\n", 893), 1, 900);
        chain(times(" ", 893) + "block r;", 1, 900);
        chain(times(" ", 901), 1, 900);
        chain(times(" ", 940), 1, 900);
        // Words that begin ahead of byte 900 are read whole.
        chain(times(" ", 893) + "block abcdefgh;", 1, 899);
        chain(times(" ", 893) + "block abcdefg;", 1, 900);
        chain(times(" ", 892) + "block number;", 1, 898);
        chain("voter a 1;" + times(" ", 881) + "voter a 1;", 3, 897);
        chain("voter a 1;" + times(" ", 888) + "voter b 1;", 1, 900);
        chain("voter a 1;" + times(" ", 889) + "epoch;", 3, 899);
        chain("voter a 1;" + times(" ", 890) + "epoch;", 1, 900);
        chain("voter abc " + times(" ", 889) + "12;", 2, 899);
        chain("voter abc " + times(" ", 890) + "12;", 1, 900);
        chain("!" + times(" ", 939), 1, 0);
        chain(times(" ", 899) + "!", 1, 899);
        chain(times(" ", 900) + "!", 1, 900);
    }

    private static void books() {
        book("x", 1, 0);
        book("vote", 1, 4);
        book("vote a r", 1, 8);
        book("vote a r p", 1, 10);
        book("vote a r p q;", 1, 11);
        book("vote a;", 1, 6);
        book("look a;", 1, 6);
        book("look a r p;", 1, 9);
        book("grow;", 1, 4);
        book("grow r p;", 1, 7);
        book("vote a r p;grow", 1, 15);
        book("block z on r;", 1, 0);
        book("vote a 1 p;", 1, 7);
        book("vote 0 r p;", 1, 5);
        book("grow r,", 1, 6);
        book("vote c r p;", 3, 5);
        book("vote r r p;", 3, 5);
        book("vote a a p;", 3, 7);
        book("vote a r b;", 3, 9);
        book("vote a r z;", 3, 9);
        book("look z r;", 3, 5);
        book("look a b;", 3, 7);
        book("grow a;", 3, 5);
        book("grow z;", 3, 5);
        // A FAULT behind a LINE that is WRONG is found first: the text is read whole.
        book("vote a p r;vote a r z;", 3, 20);
        FinalLinks x = Check.withChain(SMALL);
        Check.due("an empty book", Check.book(x, 1, " \n"), -1);
        Check.due("its fault", x.fault(), 0);
        Check.due("its lines", x.told(1), 0);
    }

    private static void longBooks() {
        FinalLinks x = Check.withChain(SMALL);
        Check.due("40 lines", Check.book(x, 0, times("look a r;look a p;", 20)), -1);
        Check.due("40 lines told", x.told(1), 40);
        book(times("look a r;look a p;", 20) + "grow r;", 4, 360);
        book(times("look a r;look a p;", 20) + " look", 4, 361);
        book(times("look a r;look a p;", 20) + "looks", 1, 360);
        Check.due("400 bytes", Check.book(x, 0, times(" ", 393) + "grow r;"), -1);
        book(times(" ", 394) + "grow r;", 1, 400);
        book("grow r;" + times(" ", 394), 1, 400);
        book(times(" ", 396) + "grow r;", 1, 400);
        book(times(" ", 396) + "growr;", 1, 396);
        book(times(" ", 394) + "grow zz;", 3, 399);
        book(times(" ", 395) + "grow zz;", 1, 400);
        book(times(" ", 800), 1, 400);
    }

    private static void sentences() {
        goodSentence("leaf", 1);
        goodSentence("not leaf", 2);
        goodSentence("(leaf)", 2);
        goodSentence("not(leaf)or(point and just)", 6);
        goodSentence("height<1", 1);
        goodSentence("level = 999 and heft > 0 or number < 007", 3);
        goodSentence(" under q\n", 1);
        sentence("", 1, 0);
        sentence("  ", 1, 2);
        sentence("()", 1, 1);
        sentence("(leaf", 1, 5);
        sentence("(leaf ", 1, 6);
        sentence("leaf)", 1, 4);
        sentence("leaf;", 1, 4);
        sentence("leaf leaf", 1, 5);
        sentence("leaf not", 1, 5);
        sentence("leaf (leaf)", 1, 5);
        sentence("not", 1, 3);
        sentence("not or", 1, 4);
        sentence("or leaf", 1, 0);
        sentence("leaf or", 1, 7);
        sentence("leaf and and leaf", 1, 9);
        sentence("leaf or or leaf", 1, 8);
        sentence("height 1", 1, 7);
        sentence("height < leaf", 1, 9);
        sentence("height <", 1, 8);
        sentence("height <= 1", 1, 8);
        sentence("height < 1000", 1, 9);
        sentence("height ; 1", 1, 7);
        sentence("number ( 1", 1, 7);
        sentence("under", 1, 5);
        sentence("under 2", 1, 6);
        sentence("under leaf", 1, 6);
        sentence("q", 1, 0);
        sentence("block", 1, 0);
        sentence("grow", 1, 0);
        sentence("under z", 3, 6);
        sentence("under a", 3, 6);
        sentence("under a or !", 3, 6);
    }

    private static void longSentences() {
        goodSentence("leaf" + times(" or leaf", 19), 20);
        goodSentence("leaf" + times(" and leaf", 19), 20);
        sentence("leaf" + times(" or leaf", 20), 4, 4 + 19 * 8 + 4);
        sentence("leaf" + times(" or leaf", 19) + " or x", 1, 4 + 19 * 8 + 4);
        sentence("leaf" + times(" or leaf", 19) + " or not", 4, 4 + 19 * 8 + 4);
        sentence("leaf" + times(" or leaf", 18) + " or not leaf", 4, 4 + 18 * 8 + 8);
        sentence("leaf" + times(" or leaf", 18) + " or (leaf", 4, 4 + 18 * 8 + 5);
        goodSentence("leaf" + times(" or leaf", 18) + " or under q", 20);
        goodSentence(times("not ", 7) + "leaf", 8);
        sentence(times("not ", 8) + "leaf", 4, 32);
        sentence(times("not ", 8) + "x", 1, 32);
        sentence(times("not ", 9) + "leaf", 4, 32);
        goodSentence(times("(", 7) + "leaf" + times(")", 7), 8);
        goodSentence(times("(", 7) + "leaf or just and final" + times(")", 7), 10);
        sentence(times("(", 8) + "leaf" + times(")", 8), 4, 8);
        sentence(times("(", 7) + "not leaf", 4, 11);
        sentence(times("(not ", 4) + "leaf", 4, 20);
        goodSentence(times("(not ", 3) + "(leaf" + times(")", 4), 8);
        goodSentence(times("not ", 7) + "leaf or " + times("not ", 7) + "leaf", 16);
        goodSentence(times(" ", 196) + "leaf", 1);
        goodSentence("leaf" + times(" ", 196), 1);
        sentence("leaf" + times(" ", 197), 1, 200);
        sentence(times(" ", 197) + "leaf", 1, 200);
        sentence(times(" ", 199) + "leaf", 1, 200);
        sentence(times(" ", 200) + "leaf", 1, 200);
        sentence(times(" ", 199) + "leafs", 1, 199);
        sentence("under " + times(" ", 193) + "zz", 3, 199);
        sentence("under " + times(" ", 194) + "zz", 1, 200);
    }
}
