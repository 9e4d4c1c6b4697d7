/** Texts with FAULTS (kinds 1 to 4), each with its place, and those that just have none. */
public final class FaultsTest {
    private FaultsTest() {
    }

    public static void main(String[] args) {
        tokensOfChains();
        numbersAndNamesOfChains();
        toldWordsAreNoNames();
        mostOfASort();
        longChains();
        books();
        longBooks();
        sentences();
        longSentences();
        Check.finish("FaultsTest");
    }

    private static void tokensOfChains() {
        Texts.goodChain("", 0);
        Texts.goodChain(" \n \n", 0);
        Texts.goodChain("block r;", 1);
        Texts.goodChain("\nblock\n\n r\n;  ", 1);
        Texts.goodChain("voter a 1;block r change a 2;block abcdefg on r;", 3);
        Texts.goodChain("voter a 007;", 1);
        Texts.goodChain("epoch 004;", 1);
        Texts.goodChain("voter from 1;block to;", 2);
        Texts.badChain("x", 1, 0);
        Texts.badChain(";", 1, 0);
        Texts.badChain("  ;", 1, 2);
        Texts.badChain("block", 1, 5);
        Texts.badChain("block  \n", 1, 8);
        Texts.badChain("block r", 1, 7);
        Texts.badChain("block r;;", 1, 8);
        Texts.badChain("block r;block", 1, 13);
        Texts.badChain("block r\t;", 1, 7);
        Texts.badChain("block r\r;", 1, 7);
        Texts.badChain("block R;", 1, 6);
        Texts.badChain("block \u00e9;", 1, 6);
        Texts.badChain("block r;\0", 1, 8);
        Texts.badChain("block abcdefgh;", 1, 6);
        Texts.badChain("block r1;", 1, 6);
        Texts.badChain("block 1r;", 1, 6);
        Texts.badChain("blockr;", 1, 0);
        Texts.badChain("block;", 1, 5);
        Texts.badChain("block 7;", 1, 6);
        Texts.badChain("block (;", 1, 6);
        Texts.badChain("blocks r;", 1, 0);
        Texts.badChain("epoch 1234;", 1, 6);
        Texts.badChain("epoch2;", 1, 0);
        Texts.badChain("epoch r;", 1, 6);
        Texts.badChain("epoch ;", 1, 6);
        Texts.badChain("voter a b;", 1, 8);
        Texts.badChain("voter a;", 1, 7);
        Texts.badChain("voter a -1;", 1, 8);
        Texts.badChain("vote a r r;", 1, 0);
        Texts.badChain("block r on r;", 1, 8);
        Texts.badChain("block r;block s;", 1, 15);
        Texts.badChain("block r;block s change a 1;", 1, 16);
        Texts.badChain("block r;block s on;", 1, 18);
        Texts.badChain("block r;block s on 3;", 1, 19);
        Texts.badChain("block r;block s on on;", 1, 19);
        Texts.badChain("block r;block s on r on r;", 1, 21);
        Texts.badChain("voter a 1;block r change a 1 change a 2;", 1, 29);
        Texts.badChain("voter a 1;block r change a 1 on r;", 1, 29);
        Texts.badChain("voter a 1;block r change a;", 1, 26);
        Texts.badChain("voter a 1;block r change;", 1, 24);
        Texts.badChain("voter a 1;block r change 1 1;", 1, 25);
    }

    private static void numbersAndNamesOfChains() {
        Texts.badChain("epoch 0;", 2, 6);
        Texts.badChain("epoch 5;", 2, 6);
        Texts.badChain("epoch 000;", 2, 6);
        Texts.badChain("voter a 10;", 2, 8);
        Texts.badChain("voter a 999 x", 2, 8);
        Texts.badChain("voter a 9;block r change a 10;", 2, 27);
        Texts.goodChain("epoch 1;voter a 0;voter b 9;block r change b 9;", 4);
        Texts.goodChain("epoch 4;", 1);
        Texts.badChain("voter a 1;epoch 1;", 3, 10);
        Texts.badChain("epoch 1;epoch 1;", 3, 8);
        Texts.badChain("block r; epoch", 3, 9);
        Texts.badChain("voter a 1;voter a 1;", 3, 16);
        Texts.badChain("block r;block r on r;", 3, 14);
        Texts.badChain("voter a 1;block a;", 3, 16);
        Texts.badChain("block a;voter a 1;", 3, 14);
        Texts.badChain("block r;block s on t;", 3, 19);
        Texts.badChain("block r;block s on s;", 3, 19);
        Texts.badChain("voter a 1;block r;block s on a;", 3, 29);
        Texts.badChain("block r change a 1;voter a 1;", 3, 15);
        Texts.badChain("block r change r 1;", 3, 15);
        Texts.badChain("block r;block s on r change r 1;", 3, 28);
        // The first along the text, whatever its kind.
        Texts.badChain("block r;block s on t change a 99 !", 3, 19);
        Texts.badChain("voter a 99;voter a 1;", 2, 8);
    }

    private static void toldWordsAreNoNames() {
        for (String word : Texts.TOLD_WORDS) {
            Texts.badChain("voter " + word + " 1;", 1, 6);
            Texts.badChain("block " + word + ";", 1, 6);
            Texts.badChain("block r;block s on " + word + ";", 1, 19);
            Texts.badBook("grow " + word + ";", 1, 5);
            Texts.badSentence("under " + word, 1, 6);
            Texts.goodChain("block " + word.charAt(0) + "z" + ";", 1);
        }
    }

    private static void mostOfASort() {
        StringBuilder voters = new StringBuilder();
        for (int i = 0; i < 8; i++) {
            voters.append("voter ").append((char) ('a' + i)).append(" 1;");
        }
        Texts.goodChain(voters.toString(), 8);
        Texts.badChain(voters + "voter z 1;", 4, 80);
        Texts.badChain(voters + "  voter", 4, 82);
        Texts.badChain(voters + "voters", 1, 80);
        Texts.badChain(voters + "voter 1;", 4, 80);
        Texts.goodChain(Texts.blocks(20), 20);
        Texts.goodChain("epoch 2;" + Texts.blocks(20) + voters, 29);
        Texts.badChain(Texts.blocks(20) + "block z on ra;", 4, Texts.blocks(20).length());
        Texts.badChain(Texts.blocks(20) + "block", 4, Texts.blocks(20).length());
        Texts.badChain(Texts.blocks(20) + "epoch 1;", 3, Texts.blocks(20).length());
    }

    private static void longChains() {
        Texts.goodChain(Texts.times(" ", 892) + "block r;", 1);
        Texts.goodChain("block r;" + Texts.times("\n", 892), 1);
        Texts.badChain("block r;" + Texts.times("\n", 893), 1, 900);
        Texts.badChain(Texts.times(" ", 893) + "block r;", 1, 900);
        Texts.badChain(Texts.times(" ", 901), 1, 900);
        Texts.badChain(Texts.times(" ", 940), 1, 900);
        // Words that begin ahead of byte 900 are read whole.
        Texts.badChain(Texts.times(" ", 893) + "block abcdefgh;", 1, 899);
        Texts.badChain(Texts.times(" ", 893) + "block abcdefg;", 1, 900);
        Texts.badChain(Texts.times(" ", 892) + "block number;", 1, 898);
        Texts.badChain("voter a 1;" + Texts.times(" ", 881) + "voter a 1;", 3, 897);
        Texts.badChain("voter a 1;" + Texts.times(" ", 888) + "voter b 1;", 1, 900);
        Texts.badChain("voter a 1;" + Texts.times(" ", 889) + "epoch;", 3, 899);
        Texts.badChain("voter a 1;" + Texts.times(" ", 890) + "epoch;", 1, 900);
        Texts.badChain("voter abc " + Texts.times(" ", 889) + "12;", 2, 899);
        Texts.badChain("voter abc " + Texts.times(" ", 890) + "12;", 1, 900);
        Texts.badChain("!" + Texts.times(" ", 939), 1, 0);
        Texts.badChain(Texts.times(" ", 899) + "!", 1, 899);
        Texts.badChain(Texts.times(" ", 900) + "!", 1, 900);
    }

    private static void books() {
        Texts.badBook("x", 1, 0);
        Texts.badBook("vote", 1, 4);
        Texts.badBook("vote a r", 1, 8);
        Texts.badBook("vote a r p", 1, 10);
        Texts.badBook("vote a r p q;", 1, 11);
        Texts.badBook("vote a;", 1, 6);
        Texts.badBook("look a;", 1, 6);
        Texts.badBook("look a r p;", 1, 9);
        Texts.badBook("grow;", 1, 4);
        Texts.badBook("grow r p;", 1, 7);
        Texts.badBook("vote a r p;grow", 1, 15);
        Texts.badBook("block z on r;", 1, 0);
        Texts.badBook("vote a 1 p;", 1, 7);
        Texts.badBook("vote 0 r p;", 1, 5);
        Texts.badBook("grow r,", 1, 6);
        Texts.badBook("vote c r p;", 3, 5);
        Texts.badBook("vote r r p;", 3, 5);
        Texts.badBook("vote a a p;", 3, 7);
        Texts.badBook("vote a r b;", 3, 9);
        Texts.badBook("vote a r z;", 3, 9);
        Texts.badBook("look z r;", 3, 5);
        Texts.badBook("look a b;", 3, 7);
        Texts.badBook("grow a;", 3, 5);
        Texts.badBook("grow z;", 3, 5);
        // A FAULT behind a LINE that is WRONG is found first: the text is read whole.
        Texts.badBook("vote a p r;vote a r z;", 3, 20);
        FinalLinks x = Check.withChain(Texts.SMALL);
        Check.due("an empty book", Check.book(x, 1, " \n"), -1);
        Check.due("its fault", x.fault(), 0);
        Check.due("its lines", x.told(1), 0);
    }

    private static void longBooks() {
        FinalLinks x = Check.withChain(Texts.SMALL);
        Check.due("40 lines", Check.book(x, 0, Texts.times("look a r;look a p;", 20)), -1);
        Check.due("40 lines told", x.told(1), 40);
        Texts.badBook(Texts.times("look a r;look a p;", 20) + "grow r;", 4, 360);
        Texts.badBook(Texts.times("look a r;look a p;", 20) + " look", 4, 361);
        Texts.badBook(Texts.times("look a r;look a p;", 20) + "looks", 1, 360);
        Check.due("400 bytes", Check.book(x, 0, Texts.times(" ", 393) + "grow r;"), -1);
        Texts.badBook(Texts.times(" ", 394) + "grow r;", 1, 400);
        Texts.badBook("grow r;" + Texts.times(" ", 394), 1, 400);
        Texts.badBook(Texts.times(" ", 396) + "grow r;", 1, 400);
        Texts.badBook(Texts.times(" ", 396) + "growr;", 1, 396);
        Texts.badBook(Texts.times(" ", 394) + "grow zz;", 3, 399);
        Texts.badBook(Texts.times(" ", 395) + "grow zz;", 1, 400);
        Texts.badBook(Texts.times(" ", 800), 1, 400);
    }

    private static void sentences() {
        Texts.goodSentence("leaf", 1);
        Texts.goodSentence("not leaf", 2);
        Texts.goodSentence("(leaf)", 2);
        Texts.goodSentence("not(leaf)or(point and just)", 6);
        Texts.goodSentence("height<1", 1);
        Texts.goodSentence("level = 999 and heft > 0 or number < 007", 3);
        Texts.goodSentence(" under q\n", 1);
        Texts.badSentence("", 1, 0);
        Texts.badSentence("  ", 1, 2);
        Texts.badSentence("()", 1, 1);
        Texts.badSentence("(leaf", 1, 5);
        Texts.badSentence("(leaf ", 1, 6);
        Texts.badSentence("leaf)", 1, 4);
        Texts.badSentence("leaf;", 1, 4);
        Texts.badSentence("leaf leaf", 1, 5);
        Texts.badSentence("leaf not", 1, 5);
        Texts.badSentence("leaf (leaf)", 1, 5);
        Texts.badSentence("not", 1, 3);
        Texts.badSentence("not or", 1, 4);
        Texts.badSentence("or leaf", 1, 0);
        Texts.badSentence("leaf or", 1, 7);
        Texts.badSentence("leaf and and leaf", 1, 9);
        Texts.badSentence("leaf or or leaf", 1, 8);
        Texts.badSentence("height 1", 1, 7);
        Texts.badSentence("height < leaf", 1, 9);
        Texts.badSentence("height <", 1, 8);
        Texts.badSentence("height <= 1", 1, 8);
        Texts.badSentence("height < 1000", 1, 9);
        Texts.badSentence("height ; 1", 1, 7);
        Texts.badSentence("number ( 1", 1, 7);
        Texts.badSentence("under", 1, 5);
        Texts.badSentence("under 2", 1, 6);
        Texts.badSentence("under leaf", 1, 6);
        Texts.badSentence("q", 1, 0);
        Texts.badSentence("block", 1, 0);
        Texts.badSentence("grow", 1, 0);
        Texts.badSentence("under z", 3, 6);
        Texts.badSentence("under a", 3, 6);
        Texts.badSentence("under a or !", 3, 6);
    }

    private static void longSentences() {
        Texts.goodSentence("leaf" + Texts.times(" or leaf", 19), 20);
        Texts.goodSentence("leaf" + Texts.times(" and leaf", 19), 20);
        Texts.badSentence("leaf" + Texts.times(" or leaf", 20), 4, 4 + 19 * 8 + 4);
        Texts.badSentence("leaf" + Texts.times(" or leaf", 19) + " or x", 1, 4 + 19 * 8 + 4);
        Texts.badSentence("leaf" + Texts.times(" or leaf", 19) + " or not", 4, 4 + 19 * 8 + 4);
        Texts.badSentence("leaf" + Texts.times(" or leaf", 18) + " or not leaf", 4, 4 + 18 * 8 + 8);
        Texts.badSentence("leaf" + Texts.times(" or leaf", 18) + " or (leaf", 4, 4 + 18 * 8 + 5);
        Texts.goodSentence("leaf" + Texts.times(" or leaf", 18) + " or under q", 20);
        Texts.goodSentence(Texts.times("not ", 7) + "leaf", 8);
        Texts.badSentence(Texts.times("not ", 8) + "leaf", 4, 32);
        Texts.badSentence(Texts.times("not ", 8) + "x", 1, 32);
        Texts.badSentence(Texts.times("not ", 9) + "leaf", 4, 32);
        Texts.goodSentence(Texts.times("(", 7) + "leaf" + Texts.times(")", 7), 8);
        Texts.goodSentence(Texts.times("(", 7) + "leaf or just and final" + Texts.times(")", 7),
                10);
        Texts.badSentence(Texts.times("(", 8) + "leaf" + Texts.times(")", 8), 4, 8);
        Texts.badSentence(Texts.times("(", 7) + "not leaf", 4, 11);
        Texts.badSentence(Texts.times("(not ", 4) + "leaf", 4, 20);
        Texts.goodSentence(Texts.times("(not ", 3) + "(leaf" + Texts.times(")", 4), 8);
        Texts.goodSentence(Texts.times("not ", 7) + "leaf or " + Texts.times("not ", 7) + "leaf",
                16);
        Texts.goodSentence(Texts.times(" ", 196) + "leaf", 1);
        Texts.goodSentence("leaf" + Texts.times(" ", 196), 1);
        Texts.badSentence("leaf" + Texts.times(" ", 197), 1, 200);
        Texts.badSentence(Texts.times(" ", 197) + "leaf", 1, 200);
        Texts.badSentence(Texts.times(" ", 199) + "leaf", 1, 200);
        Texts.badSentence(Texts.times(" ", 200) + "leaf", 1, 200);
        Texts.badSentence(Texts.times(" ", 199) + "leafs", 1, 199);
        Texts.badSentence("under " + Texts.times(" ", 193) + "zz", 3, 199);
        Texts.badSentence("under " + Texts.times(" ", 194) + "zz", 1, 200);
    }
}
