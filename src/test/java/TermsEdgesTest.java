/**
 * The document's "Terms": each sentence that names a boundary, at the boundary and at one step on
 * either side of it. What a test is about is quoted above it.
 */
public final class TermsEdgesTest {
    private TermsEdgesTest() {
    }

    public static void main(String[] args) {
        wordsHaveOneToSevenLetters();
        wordsAreOfSmallLetters();
        numbersHaveOneToThreeDigits();
        signsOfTexts();
        blanksAreTwoSigns();
        blanksOrNot();
        runsGoOn();
        chainBytes();
        chainLines();
        epochNumbers();
        epochOnce();
        epochAheadOfAll();
        weightsAsTold();
        changedWeights();
        rootIsOnNone();
        othersAreOnOne();
        toldWordsAreNoNames();
        namesAreToldOnce();
        namesAreLookedUp();
        mostVoters();
        mostBlocks();
        bookBytes();
        bookLines();
        bookForms();
        sentenceBytes();
        sentenceOnes();
        sentenceWithin();
        sentenceForms();
        kindsOfOnes();
        signsOfMeasures();
        levelOfNoPoint();
        joints();
        firstAlongTheText();
        ofOneTokenTheLeast();
        endOfAText();
        longerThanTheMost();
        wrongNumbers();
        wrongNames();
        oneMoreThanThereMayBe();
        Check.finish("TermsEdgesTest");
    }

    /** "WORDS: small letters, 1 to 7" */
    private static void wordsHaveOneToSevenLetters() {
        Texts.badChain("block ;", 1, 6);
        Texts.goodChain("block a;", 1);
        Texts.goodChain("block ab;", 1);
        Texts.goodChain("block abcdef;", 1);
        Texts.goodChain("block abcdefg;", 1);
        Texts.badChain("block abcdefgh;", 1, 6);
        Texts.badChain("block abcdefghi;", 1, 6);
        Texts.badChain("block " + Texts.times("a", 64) + ";", 1, 6);
        // All seven letters tell two names apart: the first one, and the last one.
        Texts.goodChain("voter abcdefg 1;voter bbcdefg 1;voter abcdefh 1;block abcdef;", 4);
        Texts.badChain("voter abcdefg 1;voter abcdefg 1;", 3, 22);
    }

    private static boolean isLetter(int c) {
        return c >= 97 && c <= 122;
    }

    private static boolean isDigit(int c) {
        return c >= 48 && c <= 57;
    }

    private static boolean isBlank(int c) {
        return c == 32 || c == 10;
    }

    /** "WORDS: small letters": of all 256 bytes 97 to 122 alone. */
    private static void wordsAreOfSmallLetters() {
        for (int c = 0; c < 256; c++) {
            String text = "block " + (char) c + ";";
            if (isLetter(c)) {
                Texts.goodChain(text, 1);
            } else {
                Texts.badChain(text, 1, isBlank(c) ? 7 : 6);
            }
        }
    }

    /** "NUMBERS: 1 to 3 digits" */
    private static void numbersHaveOneToThreeDigits() {
        Texts.badSentence("number <", 1, 8);
        Texts.goodSentence("number < 7", 1);
        Texts.goodSentence("number < 77", 1);
        Texts.goodSentence("number < 777", 1);
        Texts.badSentence("number < 7777", 1, 9);
        Texts.badSentence("number < 0000", 1, 9);
        Texts.badSentence("number < " + Texts.times("1", 40), 1, 9);
        Texts.goodSentence("number < 000", 1);
        Texts.goodSentence("number < 999", 1);
        for (int c = 0; c < 256; c++) {
            String text = "number < " + (char) c;
            if (isDigit(c)) {
                Texts.goodSentence(text, 1);
            } else {
                Texts.badSentence(text, 1, isBlank(c) ? 10 : 9);
            }
        }
        FinalLinks x = Check.withChain(Texts.blocks(20));
        Check.sentence(x, "number < 9");
        Check.due("one digit", x.said(-1), 9);
        Check.sentence(x, "number < 19");
        Check.due("two digits", x.said(-1), 19);
        Check.sentence(x, "number < 019");
        Check.due("three digits", x.said(-1), 19);
        Check.sentence(x, "number < 190");
        Check.due("three digits, the last is 0", x.said(-1), 20);
    }

    /** "; < = > ( )": no other sign is a TOKEN. */
    private static void signsOfTexts() {
        for (int c = 0; c < 256; c++) {
            String text = "number " + (char) c + " 1";
            if (c == '<' || c == '=' || c == '>') {
                Texts.goodSentence(text, 1);
            } else {
                Texts.badSentence(text, 1, isBlank(c) ? 9 : 7);
            }
            String closed = "(leaf" + (char) c;
            if (c == ')') {
                Texts.goodSentence(closed, 2);
            } else if (isLetter(c) || isDigit(c)) {
                Texts.badSentence(closed, 1, 1);
            } else {
                Texts.badSentence(closed, 1, isBlank(c) ? 6 : 5);
            }
            String opened = (char) c + " leaf)";
            if (c == '(') {
                Texts.goodSentence(opened, 2);
            } else {
                Texts.badSentence(opened, 1, isBlank(c) ? 6 : 0);
            }
            String line = "grow r " + (char) c;
            if (c == ';') {
                Texts.goodBook(line, 1);
            } else {
                Texts.badBook(line, 1, isBlank(c) ? 8 : 7);
            }
        }
    }

    /** "blanks (32, 10)" */
    private static void blanksAreTwoSigns() {
        for (int c = 0; c < 256; c++) {
            String text = "leaf " + (char) c;
            if (isBlank(c)) {
                Texts.goodSentence(text, 1);
            } else {
                Texts.badSentence(text, 1, 5);
            }
            String chain = (char) c + "block r;";
            if (isBlank(c)) {
                Texts.goodChain(chain, 1);
            } else {
                Texts.badChain(chain, 1, 0);
            }
        }
    }

    /** "with blanks (32, 10) between them or not" */
    private static void blanksOrNot() {
        Texts.goodChain("voter a 1;block r;block p on r change a 2;", 3);
        Texts.goodChain("voter\na\n1;block\nr;block\np\non\nr\nchange\na\n2;", 3);
        Texts.goodChain(" \n voter \n a \n 1 \n ; \n block  r  ; \n ", 2);
        Texts.goodChain("voter a 1 ;\nblock r ;\n", 2);
        Texts.goodSentence("not(leaf)and(height<1)or(level=0)", 7);
        Texts.goodSentence(" not ( leaf ) and ( height < 1 ) or ( level = 0 ) ", 7);
        Texts.goodSentence("height<1 and leaf", 2);
        Texts.goodSentence("height\n<\n1\nand\nleaf", 2);
        // Where two WORDS or NUMBERS meet, a blank alone can part them.
        Texts.badSentence("height<1and leaf", 1, 7);
        Texts.badSentence("notleaf", 1, 0);
        Texts.badSentence("leafand leaf", 1, 0);
        Texts.badChain("blockr;", 1, 0);
        Texts.badChain("voter a1;", 1, 6);
    }

    /** "A WORD, NUMBER goes on as long as small letters and digits do" */
    private static void runsGoOn() {
        Texts.badChain("block a1;", 1, 6);
        Texts.badChain("block 1a;", 1, 6);
        Texts.badChain("block abcdef1;", 1, 6);
        Texts.badChain("block abcdefg1;", 1, 6);
        Texts.badChain("epoch2;", 1, 0);
        Texts.badChain("epoch 2a;", 1, 6);
        Texts.badChain("epoch 2block r;", 1, 6);
        Texts.badChain("epoch 123a;", 1, 6);
        Texts.badChain("voter a 1b;", 1, 8);
        Texts.badChain("voter a 1b2;", 1, 8);
        Texts.badChain("voter a b1;", 1, 8);
        Texts.goodChain("voter a 1;block b;", 2);
        // No TOKEN is passed over: not one of as many letters as digits, ahead of what may come.
        Texts.badChain("block r a1;", 1, 8);
        Texts.badChain("block r ab12;", 1, 8);
        Texts.badChain("block r 1a;", 1, 8);
        Texts.badSentence("(leaf a1)", 1, 6);
        Texts.badSentence("a1(leaf)", 1, 0);
        Texts.badSentence("number a1<1", 1, 7);
        Texts.badBook("grow r a1;", 1, 7);
        // It ends where another sign comes, which is not a part of it.
        Texts.badChain("voter a 1B;", 1, 9);
        Texts.badChain("block aB;", 1, 7);
        Texts.badChain("block a_;", 1, 7);
    }

    /** "A CHAIN is a text of at most 900 bytes" */
    private static void chainBytes() {
        Texts.goodChain("block r;" + Texts.blanks(891), 1);
        Texts.goodChain("block r;" + Texts.blanks(892), 1);
        Texts.badChain("block r;" + Texts.blanks(893), 1, 900);
        Texts.goodChain(Texts.blanks(891) + "block r;", 1);
        Texts.goodChain(Texts.blanks(892) + "block r;", 1);
        Texts.badChain(Texts.blanks(893) + "block r;", 1, 900);
        Texts.goodChain(Texts.blanks(899), 0);
        Texts.goodChain(Texts.blanks(900), 0);
        Texts.badChain(Texts.blanks(901), 1, 900);
        Texts.badChain(Texts.blanks(940), 1, 900);
        Texts.goodChain("", 0);
    }

    /** "{ LINE ; }": none, one, all that there may be. */
    private static void chainLines() {
        Texts.goodChain("", 0);
        Texts.goodChain("epoch 2;", 1);
        Texts.goodChain("epoch 2;voter a 1;", 2);
        Texts.goodChain("epoch 2;" + Texts.voters(8) + Texts.blocks(20), 29);
        Texts.goodChain("epoch 2;" + Texts.blocks(20) + Texts.voters(8), 29);
        Texts.badChain(";", 1, 0);
        Texts.badChain("epoch 2;;", 1, 8);
        Texts.badChain("epoch 2", 1, 7);
        Texts.badChain("epoch 2 3;", 1, 8);
        Texts.badChain("voter a 1 2;", 1, 10);
        Texts.badChain("voter a b 1;", 1, 8);
        Texts.badChain("block r r;", 1, 8);
        Texts.badChain("vote a r r;", 1, 0);
        Texts.badChain("leaf;", 1, 0);
        Texts.badChain("a;", 1, 0);
        Texts.badChain("1;", 1, 0);
    }

    private static int epochOf(String text) {
        return Check.withChain(text).count(2);
    }

    /** "'epoch' N (1 to 4; .. 1 without)" */
    private static void epochNumbers() {
        Texts.badChain("epoch 0;", 2, 6);
        for (int n = 1; n <= 4; n++) {
            Check.due("epoch " + n, epochOf("epoch " + n + ";"), n);
        }
        Texts.badChain("epoch 5;", 2, 6);
        Texts.badChain("epoch 999;", 2, 6);
        Texts.badChain("epoch 000;", 2, 6);
        Texts.badChain("epoch 10;", 2, 6);
        Check.due("epoch of an empty text", epochOf(""), 1);
        Check.due("epoch without", epochOf("block r;"), 1);
        FinalLinks x = Check.withChain("epoch 4;");
        Check.chain(x, "epoch 3;!");
        Check.due("epoch behind a fault", x.count(2), 4);
        Check.chain(x, "block r;");
        Check.due("epoch without, behind another one", x.count(2), 1);
    }

    /** "'epoch' .. once" */
    private static void epochOnce() {
        Texts.goodChain("epoch 2;", 1);
        Texts.badChain("epoch 2;epoch 2;", 3, 8);
        Texts.badChain("epoch 2;epoch 3;", 3, 8);
        Texts.badChain("epoch 2; epoch", 3, 9);
        Texts.badChain("epoch 2;voter a 1;epoch 2;", 3, 18);
        Texts.badChain("epoch 2;epochs 2;", 1, 8);
    }

    /** "ahead of all others", "'epoch' behind another LINE (at that WORD)" */
    private static void epochAheadOfAll() {
        Texts.goodChain("epoch 2;voter a 1;block r;", 3);
        Texts.badChain("voter a 1;epoch 2;block r;", 3, 10);
        Texts.badChain("block r;epoch 2;", 3, 8);
        Texts.badChain("block r;\n epoch", 3, 10);
        Texts.badChain("block r;epoch 9;", 3, 8);
    }

    /** "'voter' NAME N (its WEIGHT as told: 0 to 9)" */
    private static void weightsAsTold() {
        for (int n = 0; n <= 9; n++) {
            Check.due("weight " + n, Check.withChain("voter a " + n + ";").voter(0, 0), n);
        }
        Texts.badChain("voter a 10;", 2, 8);
        Texts.badChain("voter a 11;", 2, 8);
        Texts.badChain("voter a 999;", 2, 8);
        Texts.badChain("voter a -1;", 1, 8);
        Texts.badChain("voter a;", 1, 7);
        Texts.goodChain("voter a 009;", 1);
        Texts.badChain("voter a 010;", 2, 8);
    }

    /** "[ 'change' VOTER N ] (0 to 9" */
    private static void changedWeights() {
        for (int n = 0; n <= 9; n++) {
            FinalLinks x = Check.withChain("voter a 5;block r change a " + n + ";");
            Check.row("changed to " + n, new long[] {x.weight(0, 0), x.block(0, 4), x.voter(0, 0)},
                    n, 0, 5);
        }
        Texts.badChain("voter a 5;block r change a 10;", 2, 27);
        Texts.badChain("voter a 5;block r change a 999;", 2, 27);
        Texts.badChain("voter a 5;block r change a;", 1, 26);
        Texts.badChain("voter a 5;block r change a 1 change a 1;", 1, 29);
        Texts.badChain("voter a 5;block r;block p on r change a 10;", 2, 40);
        Texts.goodChain("voter a 5;block r;block p on r change a 9;", 3);
    }

    /** "the first one, the ROOT, is on none" */
    private static void rootIsOnNone() {
        Texts.goodChain("block r;", 1);
        Texts.badChain("block r on r;", 1, 8);
        Texts.badChain("block r on p;", 1, 8);
        Texts.badChain("voter a 1;block r on a;", 1, 18);
        Texts.badChain("voter a 1;block r on", 1, 18);
        Texts.badChain("voter a 1;block r change a 1 on r;", 1, 29);
        Check.due("the root is on none", Check.withChain("block r;").block(0, 0), -1);
    }

    /** "each other one on one" */
    private static void othersAreOnOne() {
        Texts.goodChain("block r;block p on r;", 2);
        Texts.badChain("block r;block p;", 1, 15);
        Texts.badChain("block r;block p on r on r;", 1, 21);
        Texts.badChain("block r;block p on r r;", 1, 21);
        Texts.badChain("block r;block p on;", 1, 18);
        Texts.badChain("voter a 1;block r;block p change a 1 on r;", 1, 26);
        Texts.badChain("block r;block p on r;block q;", 1, 28);
        FinalLinks x = Check.withChain("block r;block p on r;block q on p;block s on r;");
        Check.row("on which each is", new long[] {x.block(0, 0), x.block(1, 0), x.block(2, 0),
            x.block(3, 0)}, -1, 0, 1, 0);
    }

    private static boolean isTold(String word) {
        for (String told : Texts.TOLD_WORDS) {
            if (told.equals(word)) {
                return true;
            }
        }
        return false;
    }

    private static void freeName(String name) {
        if (!name.isEmpty() && !isTold(name)) {
            Texts.goodChain("voter " + name + " 1;", 1);
            Texts.goodChain("block " + name + ";", 1);
        }
    }

    /** "NAME: a WORD, none of those told here, in a BOOK or a SENTENCE" */
    private static void toldWordsAreNoNames() {
        for (String word : Texts.TOLD_WORDS) {
            Texts.badChain("voter " + word + " 1;", 1, 6);
            Texts.badChain("block " + word + ";", 1, 6);
            Texts.badChain("block r;block s on " + word + ";", 1, 19);
            Texts.badChain("block r change " + word + " 1;", 1, 15);
            Texts.badBook("vote " + word + " r p;", 1, 5);
            Texts.badBook("vote a " + word + " p;", 1, 7);
            Texts.badBook("vote a r " + word + ";", 1, 9);
            Texts.badBook("grow " + word + ";", 1, 5);
            Texts.badSentence("under " + word, 1, 6);
            // One letter less or more, at either side, and it is free.
            freeName(word.substring(1));
            freeName(word.substring(0, word.length() - 1));
            freeName(word + "z");
            freeName("z" + word);
        }
        freeName("from");
        freeName("to");
        freeName("root");
    }

    /** "told once" */
    private static void namesAreToldOnce() {
        Texts.badChain("voter a 1;voter a 1;", 3, 16);
        Texts.goodChain("voter a 1;voter b 1;", 2);
        Texts.badChain("block r;block r on r;", 3, 14);
        Texts.goodChain("block r;block s on r;", 2);
        Texts.badChain("voter a 1;block a;", 3, 16);
        Texts.badChain("block a;voter a 1;", 3, 14);
        Texts.goodChain("voter a 1;voter aa 1;block aaa;", 3);
        // The last of all that there may be is still compared with the first.
        Texts.badChain(Texts.voters(7) + "voter aa 1;", 3, 83);
        Texts.badChain(Texts.blocks(19) + "block ra on ra;", 3, Texts.blocks(19).length() + 6);
        Texts.badChain(Texts.voters(8) + "block ah;", 3, 94);
        Texts.badChain(Texts.blocks(20) + "voter rt 1;", 3, Texts.blocks(20).length() + 6);
        // A CHAIN that was, or that had a FAULT, keeps no NAME.
        FinalLinks x = Check.withChain("voter a 1;block r;");
        Check.due("the same names anew", Check.chain(x, "voter a 1;block r;"), 2);
        Check.due("a fault", Check.chain(x, "voter q 1;block s;!"), -1 - 18);
        Check.due("the names of the fault", Check.chain(x, "block q;voter s 1;"), 2);
    }

    /** "BLOCK", "VOTER": a NAME that was told, of its sort. */
    private static void namesAreLookedUp() {
        Texts.badChain("block r;block s on s;", 3, 19);
        Texts.badChain("block r;block s on t;block t on r;", 3, 19);
        Texts.badChain("voter r 1;block s;block t on r;", 3, 29);
        Texts.badChain("block r change a 1;voter a 1;", 3, 15);
        Texts.badChain("block r change r 1;", 3, 15);
        Texts.badChain("voter a 1;block r;block s on r change s 1;", 3, 38);
        // The first and the last of all that there may be are found.
        Texts.goodChain(Texts.blocks(19) + "block z on rs;", 20);
        Texts.goodChain(Texts.voters(8) + "block r change aa 1;", 9);
        Texts.goodChain(Texts.voters(8) + "block r change ah 1;", 9);
        Texts.badChain(Texts.voters(8) + "block r change ai 1;", 3, 103);
    }

    /** "8 VOTERS .. at most, numbered from 0 each" */
    private static void mostVoters() {
        Texts.goodChain(Texts.voters(7), 7);
        Texts.goodChain(Texts.voters(8), 8);
        Texts.badChain(Texts.voters(9), 4, 88);
        Texts.badChain(Texts.voters(8) + "voter", 4, 88);
        Texts.badChain(Texts.voters(8) + " voter aa 1;", 4, 89);
        FinalLinks x = Check.withChain(Texts.voters(8) + "block r;");
        Check.due("voters", x.count(0), 8);
        Check.book(x, 1, "look aa r;");
        Check.row("the first one", new long[] {x.voter(0, 2), x.voter(1, 2), x.voter(7, 2)},
                0, -1, -1);
        Check.book(x, 1, "look ah r;");
        Check.row("the last one", new long[] {x.voter(0, 2), x.voter(6, 2), x.voter(7, 2)},
                0, -1, 0);
    }

    /** "20 BLOCKS at most, numbered from 0 each" */
    private static void mostBlocks() {
        Texts.goodChain(Texts.blocks(19), 19);
        Texts.goodChain(Texts.blocks(20), 20);
        Texts.badChain(Texts.blocks(21), 4, Texts.blocks(20).length());
        Texts.badChain(Texts.blocks(20) + "block", 4, Texts.blocks(20).length());
        Texts.badChain(Texts.blocks(20) + "\nblock ra;", 4, Texts.blocks(20).length() + 1);
        FinalLinks x = Check.withChain("voter a 1;" + Texts.blocks(20));
        Check.due("blocks", x.count(1), 20);
        Check.book(x, 1, "look a ra;");
        Check.due("the first one", x.voter(0, 2), 0);
        Check.book(x, 1, "look a rt;");
        Check.due("the last one", x.voter(0, 2), 19);
    }

    /** "A BOOK is a text of at most 400 bytes" */
    private static void bookBytes() {
        Texts.goodBook("grow r;" + Texts.blanks(392), 1);
        Texts.goodBook("grow r;" + Texts.blanks(393), 1);
        Texts.badBook("grow r;" + Texts.blanks(394), 1, 400);
        Texts.goodBook(Texts.blanks(392) + "grow r;", 1);
        Texts.goodBook(Texts.blanks(393) + "grow r;", 1);
        Texts.badBook(Texts.blanks(394) + "grow r;", 1, 400);
        Texts.goodBook(Texts.blanks(399), 0);
        Texts.goodBook(Texts.blanks(400), 0);
        Texts.badBook(Texts.blanks(401), 1, 400);
        Texts.badBook(Texts.blanks(940), 1, 400);
    }

    /** "{ LINE ; }, 40 at most", "a 41st LINE of a BOOK (at the LINE's first WORD)" */
    private static void bookLines() {
        String two = "look a r;look a p;";
        Texts.goodBook("", 0);
        Texts.goodBook("look a r;", 1);
        Texts.goodBook(Texts.times(two, 19) + "look a r;", 39);
        Texts.goodBook(Texts.times(two, 20), 40);
        Texts.badBook(Texts.times(two, 20) + "look a r;", 4, 360);
        Texts.badBook(Texts.times(two, 20) + "vote a r p;", 4, 360);
        Texts.badBook(Texts.times(two, 20) + "grow r;", 4, 360);
        Texts.badBook(Texts.times(two, 20) + "\ngrow", 4, 361);
        Texts.badBook(Texts.times(two, 20) + "grow zz;", 4, 360);
    }

    /** "'vote' VOTER BLOCK BLOCK | 'look' VOTER BLOCK | 'grow' BLOCK" */
    private static void bookForms() {
        Texts.goodBook("vote a r p;look b q;grow p;", 3);
        Texts.badBook("vote a r;", 1, 8);
        Texts.badBook("vote a r p q;", 1, 11);
        Texts.badBook("vote r p;", 3, 5);
        Texts.badBook("look a;", 1, 6);
        Texts.badBook("look a r p;", 1, 9);
        Texts.badBook("look r;", 3, 5);
        Texts.badBook("grow;", 1, 4);
        Texts.badBook("grow r p;", 1, 7);
        Texts.badBook("grow a;", 3, 5);
        Texts.badBook("grow 0;", 1, 5);
        Texts.badBook(";", 1, 0);
        Texts.badBook("grow r;;", 1, 7);
        Texts.badBook("voter z 1;", 1, 0);
        Texts.badBook("epoch 2;", 1, 0);
        Texts.badBook("leaf;", 1, 0);
        // A BLOCK that has grown has no NAME: neither that of its number nor one that was free.
        FinalLinks x = Check.withChain("voter a 1;block r;");
        x.grows(0);
        Check.due("a number is no name", Check.book(x, 1, "look a 1;"), -2 - 7);
        Check.due("kind", x.fault(), 1);
        Check.due("no name is told", Check.book(x, 1, "look a p;"), -2 - 7);
        Check.due("kind", x.fault(), 3);
        Check.due("no name is none", Check.book(x, 1, "look a ;"), -2 - 7);
        Check.due("kind", x.fault(), 1);
    }

    /** "A SENTENCE is a text of at most 200 bytes" */
    private static void sentenceBytes() {
        Texts.goodSentence("leaf" + Texts.blanks(195), 1);
        Texts.goodSentence("leaf" + Texts.blanks(196), 1);
        Texts.badSentence("leaf" + Texts.blanks(197), 1, 200);
        Texts.goodSentence(Texts.blanks(195) + "leaf", 1);
        Texts.goodSentence(Texts.blanks(196) + "leaf", 1);
        Texts.badSentence(Texts.blanks(197) + "leaf", 1, 200);
        Texts.badSentence(Texts.blanks(199), 1, 199);
        Texts.badSentence(Texts.blanks(200), 1, 200);
        Texts.badSentence(Texts.blanks(201), 1, 200);
        Texts.badSentence(Texts.blanks(940), 1, 200);
        Texts.badSentence("", 1, 0);
    }

    /** "20 ONES", "a 21st ONE .. (at its first TOKEN)": each not, bracket and other one. */
    private static void sentenceOnes() {
        String eighteen = "leaf" + Texts.times(" or just", 17);
        Texts.goodSentence("leaf", 1);
        Texts.goodSentence(eighteen + " or leaf", 19);
        Texts.goodSentence(eighteen + " or leaf or leaf", 20);
        Texts.badSentence(eighteen + " or leaf or leaf or leaf", 4, 4 + 17 * 8 + 20);
        Texts.goodSentence(eighteen + " or not leaf", 20);
        Texts.badSentence(eighteen + " or not not leaf", 4, 4 + 17 * 8 + 12);
        Texts.goodSentence(eighteen + " or (leaf)", 20);
        Texts.badSentence(eighteen + " or ((leaf))", 4, 4 + 17 * 8 + 6);
        Texts.badSentence(eighteen + " or (not leaf)", 4, 4 + 17 * 8 + 9);
        Texts.goodSentence(eighteen + " or height<1 or under q", 20);
        Texts.badSentence(eighteen + " or height<1 or under q and height<1", 4, 4 + 17 * 8 + 28);
        Texts.badSentence(eighteen + " and leaf and leaf and under", 4, 4 + 17 * 8 + 23);
        Texts.badSentence(eighteen + " and leaf and leaf and (", 4, 4 + 17 * 8 + 23);
    }

    /** "8 within one another", "a ninth within (at its first TOKEN)" */
    private static void sentenceWithin() {
        Texts.goodSentence(Texts.times("not ", 6) + "leaf", 7);
        Texts.goodSentence(Texts.times("not ", 7) + "leaf", 8);
        Texts.badSentence(Texts.times("not ", 8) + "leaf", 4, 32);
        Texts.badSentence(Texts.times("not ", 9) + "leaf", 4, 32);
        Texts.goodSentence(Texts.times("(", 6) + "leaf" + Texts.times(")", 6), 7);
        Texts.goodSentence(Texts.times("(", 7) + "leaf" + Texts.times(")", 7), 8);
        Texts.badSentence(Texts.times("(", 8) + "leaf" + Texts.times(")", 8), 4, 8);
        Texts.badSentence(Texts.times("(", 9) + "leaf" + Texts.times(")", 9), 4, 8);
        Texts.goodSentence(Texts.times("(not ", 3) + "(leaf" + Texts.times(")", 4), 8);
        Texts.badSentence(Texts.times("(not ", 4) + "leaf" + Texts.times(")", 4), 4, 20);
        Texts.badSentence(Texts.times("not ", 8) + "under q", 4, 32);
        Texts.badSentence(Texts.times("not ", 8) + "(leaf)", 4, 32);
        // Those beside one another are not within one another.
        Texts.goodSentence(Texts.times("not ", 7) + "leaf and " + Texts.times("not ", 7) + "leaf",
                16);
        Texts.goodSentence(Texts.times("(", 7) + "leaf and leaf or leaf" + Texts.times(")", 7), 10);
        Texts.goodSentence("(((((((leaf))))))) or (((((((leaf)))))))", 16);
        Texts.badSentence("(((((((leaf and not leaf", 4, 20);
        Texts.badSentence("(((((((leaf))))))) or ((((((((leaf))))))))", 4, 30);
    }

    /** "COND: ALL { 'or' ALL }. ALL: ONE { 'and' ONE }. ONE: 'not' ONE | ( COND ) | .." */
    private static void sentenceForms() {
        Texts.badSentence("", 1, 0);
        Texts.badSentence("not", 1, 3);
        Texts.goodSentence("not leaf", 2);
        Texts.badSentence("()", 1, 1);
        Texts.badSentence("(leaf", 1, 5);
        Texts.goodSentence("(leaf)", 2);
        Texts.badSentence("(leaf))", 1, 6);
        Texts.badSentence("leaf)", 1, 4);
        Texts.badSentence("leaf leaf", 1, 5);
        Texts.badSentence("leaf (leaf)", 1, 5);
        Texts.badSentence("leaf not leaf", 1, 5);
        Texts.badSentence("or leaf", 1, 0);
        Texts.badSentence("and leaf", 1, 0);
        Texts.badSentence("leaf or", 1, 7);
        Texts.badSentence("leaf and", 1, 8);
        Texts.badSentence("leaf or and leaf", 1, 8);
        Texts.badSentence("leaf and not or leaf", 1, 13);
        Texts.badSentence("under", 1, 5);
        Texts.badSentence("under 1", 1, 6);
        Texts.badSentence("under q q", 1, 8);
        Texts.badSentence("height", 1, 6);
        Texts.badSentence("height 1", 1, 7);
        Texts.badSentence("height <", 1, 8);
        Texts.badSentence("height < < 1", 1, 9);
        Texts.badSentence("height < 1 1", 1, 11);
        Texts.badSentence("height < q", 1, 9);
        Texts.badSentence("leaf < 1", 1, 5);
        Texts.badSentence("leaf;", 1, 4);
        Texts.badSentence("q", 1, 0);
        Texts.badSentence("1", 1, 0);
        Texts.badSentence("on", 1, 0);
        Texts.badSentence("<", 1, 0);
    }

    private static void said(FinalLinks x, String sentence, long... blocks) {
        Check.due(sentence + " is read", Check.sentence(x, sentence) > 0, true);
        Check.due(sentence + ": how many", x.said(-1), blocks.length);
        for (int k = 0; k < blocks.length; k++) {
            Check.due(sentence + ": " + k, x.said(k), blocks[k]);
        }
    }

    /**
     * Blocks r 0, x 1, p 2, y 3, q 4 on one another and z 5 on x, points are of even height; p is
     * just and r and p are final, the chosen way is q alone.
     */
    private static FinalLinks judged() {
        FinalLinks x = Check.withChain("epoch 2;voter a 2;block r;block x on r;block p on x;"
                + "block y on p;block q on y;block z on x;");
        x.votes(0, 0, 2);
        x.votes(0, 2, 4);
        x.looks(0, 3);
        return x;
    }

    /** "'leaf' (no BLOCK is on it)", "'chosen' (on the CHOSEN WAY)", "(that one is AHEAD of it)" */
    private static void kindsOfOnes() {
        FinalLinks x = judged();
        said(x, "leaf", 4, 5);
        said(x, "point", 0, 2, 4, 5);
        said(x, "just", 0, 2, 4);
        said(x, "final", 0, 2);
        said(x, "chosen", 4);
        // No BLOCK is under itself, nor under one that is beside it or behind it.
        said(x, "under r", 1, 2, 3, 4, 5);
        said(x, "under x", 2, 3, 4, 5);
        said(x, "under p", 3, 4);
        said(x, "under y", 4);
        said(x, "under q");
        said(x, "under z");
        x.grows(4);
        said(x, "leaf", 5, 6);
        said(x, "chosen", 4, 6);
        said(x, "under q", 6);
    }

    /** "( 'height' | 'level' | 'heft' | 'number' ) SIGN NUMBER": one less, like, one more. */
    private static void signsOfMeasures() {
        FinalLinks x = judged();
        said(x, "height < 0");
        said(x, "height < 1", 0);
        said(x, "height = 0", 0);
        said(x, "height > 0", 1, 2, 3, 4, 5);
        said(x, "height < 3", 0, 1, 2, 5);
        said(x, "height = 3", 3);
        said(x, "height > 3", 4);
        said(x, "height > 4");
        said(x, "heft < 2", 4, 5);
        said(x, "heft = 2", 0, 1, 2, 3);
        said(x, "heft > 1", 0, 1, 2, 3);
        said(x, "heft > 2");
        said(x, "heft = 0", 4, 5);
        said(x, "number < 0");
        said(x, "number < 1", 0);
        said(x, "number = 5", 5);
        said(x, "number = 6");
        said(x, "number > 4", 5);
        said(x, "number > 5");
        said(x, "number < 999", 0, 1, 2, 3, 4, 5);
    }

    /** "LEVEL: not so of one that is no POINT" */
    private static void levelOfNoPoint() {
        FinalLinks x = judged();
        said(x, "level < 1", 0);
        said(x, "level < 2", 0, 2, 5);
        said(x, "level < 999", 0, 2, 4, 5);
        said(x, "level = 0", 0);
        said(x, "level = 1", 2, 5);
        said(x, "level > 0", 2, 4, 5);
        said(x, "level > 1", 4);
        said(x, "level > 2");
        said(x, "not level < 999", 1, 3);
        said(x, "not level > 0", 0, 1, 3);
    }

    /** "ALL { 'or' ALL }", "ONE { 'and' ONE }": 'and' joins ahead of 'or', 'not' ahead of both. */
    private static void joints() {
        FinalLinks x = judged();
        said(x, "number = 0 or number = 1 and number = 2", 0);
        said(x, "(number = 0 or number = 1) and number = 2");
        said(x, "number = 2 and number = 1 or number = 0", 0);
        said(x, "number = 2 and (number = 1 or number = 2)", 2);
        said(x, "not number = 0 or number = 0", 0, 1, 2, 3, 4, 5);
        said(x, "not (number = 0 or number = 1)", 2, 3, 4, 5);
        said(x, "not number = 0 and not number = 1", 2, 3, 4, 5);
        said(x, "not number > 1 and number > 0", 1);
        said(x, "not not number > 4", 5);
        said(x, "number=0 or number=1 or number=2 and leaf or number=4 and leaf", 0, 1, 4);
    }

    /** "FAULTS, the first along the text" */
    private static void firstAlongTheText() {
        Texts.badChain("voter a 99;voter a 1;!", 2, 8);
        Texts.badChain("voter a 9;voter a 99;!", 3, 16);
        Texts.badChain("voter a 9;voter b 9!;voter a 99;", 1, 19);
        Texts.badChain("block r;block s on t change a 99 !", 3, 19);
        Texts.badChain("voter a 1;epoch 9;", 3, 10);
        Texts.badChain("epoch 9;epoch 1;", 2, 6);
        Texts.badChain(Texts.voters(8) + "voter aa 99;!", 4, 88);
        Texts.badBook("vote z y x;", 3, 5);
        Texts.badBook("vote a y x;", 3, 7);
        Texts.badBook("vote a r x", 3, 9);
        Texts.badBook("vote a r p", 1, 10);
        Texts.badSentence("under z and height < 1000", 3, 6);
        Texts.badSentence("height < 1000 and under z", 1, 9);
        // A BOOK is read whole ahead of what is WRONG in it.
        Texts.badBook("vote a p r;vote a r z;", 3, 20);
    }

    /** "of one TOKEN the least" */
    private static void ofOneTokenTheLeast() {
        // No TOKEN, which would be a wrong NUMBER as well.
        Texts.badChain("epoch 1000;", 1, 6);
        Texts.badChain("voter a 0010;", 1, 8);
        // No TOKEN, or a told WORD, which would not be told as a NAME as well.
        Texts.badBook("grow abcdefgh;", 1, 5);
        Texts.badBook("grow block;", 1, 5);
        Texts.badSentence("under leaf", 1, 6);
        Texts.badChain("voter voter 1;", 1, 6);
        // One that can't come, where one more than there may be would come.
        Texts.badChain(Texts.voters(8) + "voters aa 1;", 1, 88);
        Texts.badChain(Texts.voters(8) + "look", 1, 88);
        Texts.badChain(Texts.voters(8) + "epoch 1;", 3, 88);
        Texts.badBook(Texts.times("look a r;", 40) + "block", 1, 360);
        Texts.badSentence("leaf" + Texts.times(" or leaf", 19) + " or or", 1, 160);
        Texts.badSentence("leaf" + Texts.times(" or leaf", 19) + " or )", 1, 160);
        Texts.badSentence("leaf" + Texts.times(" or leaf", 19) + " or ", 1, 160);
        Texts.badSentence(Texts.times("not ", 8) + "and", 1, 32);
        Texts.badSentence(Texts.times("not ", 8) + "!", 1, 32);
        Texts.badSentence(Texts.times("not ", 8), 1, 32);
    }

    /** "the end: how many bytes there are" */
    private static void endOfAText() {
        Texts.badChain("block", 1, 5);
        Texts.badChain("block ", 1, 6);
        Texts.badChain("block r", 1, 7);
        Texts.badChain("block r\n\n", 1, 9);
        Texts.goodChain("block r;", 1);
        Texts.goodChain("block r; ", 1);
        Texts.badChain("block r;block p on r" + Texts.blanks(879), 1, 899);
        Texts.badChain("block r;block p on r" + Texts.blanks(880), 1, 900);
        Texts.badBook("grow", 1, 4);
        Texts.badBook("grow r", 1, 6);
        Texts.badBook("grow r" + Texts.blanks(393), 1, 399);
        Texts.badBook("grow r" + Texts.blanks(394), 1, 400);
        Texts.badSentence("leaf or", 1, 7);
        Texts.badSentence("leaf or" + Texts.blanks(192), 1, 199);
        Texts.badSentence("leaf or" + Texts.blanks(193), 1, 200);
    }

    /** "the most bytes told, if there are more .. TOKENS that begin ahead of it are read whole" */
    private static void longerThanTheMost() {
        // No FAULT is ahead: at the most, wherever the TOKEN ends that begins ahead of it.
        Texts.badChain(Texts.blanks(894) + "block r;", 1, 900);
        Texts.badChain(Texts.blanks(899) + "block r;", 1, 900);
        Texts.badChain(Texts.blanks(900) + "block r;", 1, 900);
        Texts.badChain("block " + Texts.blanks(893) + "abcdefg;", 1, 900);
        Texts.badChain("block r" + Texts.blanks(893) + ";", 1, 900);
        // A FAULT is ahead of it, one step ahead at the least.
        Texts.badChain(Texts.blanks(899) + "!" + Texts.blanks(40), 1, 899);
        Texts.badChain(Texts.blanks(900) + "!" + Texts.blanks(39), 1, 900);
        Texts.badChain(Texts.blanks(899) + "blocks", 1, 899);
        Texts.badChain(Texts.blanks(900) + "blocks", 1, 900);
        Texts.badChain("block " + Texts.blanks(893) + "abcdefgh;", 1, 899);
        Texts.badChain("block " + Texts.blanks(894) + "abcdefgh;", 1, 900);
        Texts.badChain("voter a " + Texts.blanks(891) + "10;", 2, 899);
        Texts.badChain("voter a " + Texts.blanks(892) + "10;", 1, 900);
        Texts.badChain("voter ab 1;voter " + Texts.blanks(882) + "ab 1;", 3, 899);
        Texts.badChain("voter ab 1;voter " + Texts.blanks(883) + "ab 1;", 1, 900);
        Texts.badChain("block r;" + Texts.blanks(891) + "epoch 1;", 3, 899);
        Texts.badChain("block r;" + Texts.blanks(892) + "epoch 1;", 1, 900);
        Texts.badChain(Texts.voters(8) + Texts.blanks(811) + "voter", 4, 899);
        Texts.badChain(Texts.voters(8) + Texts.blanks(812) + "voter", 1, 900);
        Texts.badBook(Texts.blanks(399) + "grows", 1, 399);
        Texts.badBook(Texts.blanks(399) + "grow r;", 1, 400);
        Texts.badBook(Texts.blanks(400) + "grows", 1, 400);
        Texts.badBook("grow " + Texts.blanks(394) + "zz;", 3, 399);
        Texts.badBook("grow " + Texts.blanks(395) + "zz;", 1, 400);
        Texts.badBook(Texts.times("look a r;", 40) + Texts.blanks(39) + "grow r;", 4, 399);
        Texts.badBook(Texts.times("look a r;", 40) + Texts.blanks(40) + "grow r;", 1, 400);
        Texts.badSentence(Texts.blanks(199) + "leafs", 1, 199);
        Texts.badSentence(Texts.blanks(199) + "leaf", 1, 200);
        Texts.badSentence(Texts.blanks(200) + "leafs", 1, 200);
        Texts.badSentence("under " + Texts.blanks(193) + "zz", 3, 199);
        Texts.badSentence("under " + Texts.blanks(194) + "zz", 1, 200);
        Texts.badSentence("number < " + Texts.blanks(190) + "1234", 1, 199);
        Texts.badSentence("number < " + Texts.blanks(190) + "123", 1, 200);
        Texts.badSentence(Texts.times("not ", 8) + Texts.blanks(167) + "leaf", 4, 199);
        Texts.badSentence(Texts.times("not ", 8) + Texts.blanks(168) + "leaf", 1, 200);
    }

    /** "2 a NUMBER that is not as told (at it)" */
    private static void wrongNumbers() {
        Texts.badChain("epoch  5;", 2, 7);
        Texts.badChain("epoch 5", 2, 6);
        Texts.badChain("epoch 0!", 2, 6);
        Texts.badChain("voter a\n10;", 2, 8);
        Texts.badChain("voter a 1;block r change a 10;", 2, 27);
        // Every NUMBER of a SENTENCE is as told.
        Texts.goodSentence("level > 999 or height < 0", 2);
    }

    /** "3 a NAME told twice, not told, or of another sort (at it)" */
    private static void wrongNames() {
        Texts.badChain("voter a 1;voter  a 1;", 3, 17);
        Texts.badChain("block r;block s on  t;", 3, 20);
        Texts.badChain("voter a 1;block r;block s on\na;", 3, 29);
        Texts.badChain("block r;block s on r change  r 1;", 3, 29);
        Texts.badBook("look c r;", 3, 5);
        Texts.badBook("look r r;", 3, 5);
        Texts.badBook("look a z;", 3, 7);
        Texts.badBook("look a b;", 3, 7);
        Texts.badBook("vote a r  z;", 3, 10);
        Texts.badBook("vote a r b;", 3, 9);
        Texts.badBook("vote a b r;", 3, 7);
        Texts.badBook("grow b;", 3, 5);
        Texts.badSentence("under  z", 3, 7);
        Texts.badSentence("under a", 3, 6);
        Texts.goodSentence("under r", 1);
    }

    /** "4 one more than there may be of a sort, .. (at the LINE's first WORD)" */
    private static void oneMoreThanThereMayBe() {
        String full = Texts.voters(8) + Texts.blocks(20);
        Texts.goodChain(full, 28);
        Texts.badChain(full + "  voter z 1;", 4, full.length() + 2);
        Texts.badChain(full + "  block z on ra;", 4, full.length() + 2);
        Texts.badChain(full + "voter !", 4, full.length());
        Texts.badChain(full + "block ra on zz change zz 99", 4, full.length());
        Texts.goodChain(Texts.voters(8) + Texts.blocks(20) + "\n", 28);
        // Eight VOTERS leave room for BLOCKS, and twenty BLOCKS for VOTERS.
        Texts.goodChain(Texts.voters(8) + "block r;", 9);
        Texts.goodChain(Texts.blocks(20) + "voter a 1;", 21);
    }
}
