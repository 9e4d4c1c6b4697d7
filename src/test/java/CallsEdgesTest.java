/**
 * The promises 1 to 39: each sentence that names a boundary (too small, too large, empty, full, a
 * refused call), at the boundary and at one step on either side. The number of the promise stands
 * ahead of what is asked, and what the test is about is quoted above it.
 */
public final class CallsEdgesTest {
    /** Blocks r 0, p 1 on r, q 2 on p, s 3 on r; voters a, b, c of weight 1. */
    private static final String FORKED =
            "voter a 1;voter b 1;voter c 1;block r;block p on r;block q on p;block s on r;";
    /** Points r 0, p 2, q 4; x 1 and y 3 are none. Voters a of 2, b of 1. */
    private static final String TWO_LONG = "epoch 2;voter a 2;voter b 1;block r;block x on r;"
            + "block p on x change b 9;block y on p;block q on y;";
    /** Numbers that no BLOCK, VOTER, VOTE or what has. */
    private static final int[] FAR = {Integer.MIN_VALUE, Integer.MIN_VALUE + 1, -1000, -33, -32,
        -31, -2, 20, 31, 32, 33, 63, 64, 1000, Integer.MAX_VALUE - 1, Integer.MAX_VALUE};

    private CallsEdgesTest() {
    }

    public static void main(String[] args) {
        newObject();
        newObjectTold();
        feedOfBytes();
        feedUpTo940();
        endOfTape();
        chainOfTape();
        faultOfTexts();
        blockEdges();
        aheadEdges();
        forkEdges();
        weightEdges();
        voterEdges();
        voteEdges();
        linkEdges();
        votesEdges();
        looksEdges();
        growsEdges();
        undoOfEight();
        undoOfWhatWasDone();
        offendsEdges();
        evidenceEdges();
        nowEdges();
        chosenEdges();
        needEdges();
        wayEdges();
        clashEdges();
        guiltEdges();
        meanEdges();
        tagEdges();
        drawnEdges();
        oddsEdges();
        bookEdges();
        bookLives();
        toldEdges();
        sentenceEdges();
        saidEdges();
        imageEdges();
        restoreEdges();
        countEdges();
        refusedCallsChangeNothing();
        farNumbers();
        Check.finish("CallsEdgesTest");
    }

    /** "A CHAIN without BLOCKS; an empty tape." */
    private static void newObject() {
        FinalLinks x = new FinalLinks();
        Check.row("1: counts", new long[] {x.count(0), x.count(1), x.count(2), x.count(3),
            x.count(4)}, 0, 0, 1, 0, 0);
        Check.row("1: no blocks", new long[] {x.ahead(0, 0), x.fork(0, 0), x.weight(0, 0),
            x.grows(0), x.way(0), x.need(0, 0), x.chosen(0), x.odds(0, 1, 1)},
                -1, -1, -1, -1, -1, -1, -1, -1);
        Check.row("1: no voters, no votes", new long[] {x.voter(0, 0), x.vote(0, 0),
            x.votes(0, 0, 0), x.looks(0, 0), x.offends(0, 0, 0), x.evidence(0, 0), x.tag(0)},
                -1, -1, -1, -1, -1, -1, -1);
        Check.row("1: now", new long[] {x.now(0), x.now(1), x.now(2), x.now(3), x.now(4), x.now(5),
            x.now(6), x.now(7), x.now(8), x.clash(), x.clashAt(0)},
                0, 0, 0, 0, 0, 0, 0, -1, -1, 0, -1);
        Check.throwing("1: block", () -> x.block(0, 0));
        Check.throwing("1: link", () -> x.link(0, 0, 0));
        Check.throwing("1: guilt", () -> x.guilt(0));
        Check.throwing("1: mean", () -> x.mean(0));
        Check.due("1: the empty tape is a chain", x.chain(), 0);
    }

    /** "ahead of any", for each that has it */
    private static void newObjectTold() {
        FinalLinks x = new FinalLinks();
        Check.row("5, 22, 24: ahead of any", new long[] {x.fault(), x.needed(), x.wayFrom()},
                0, -1, -1);
        Check.row("34: ahead of any", new long[] {x.told(0), x.told(1), x.told(2), x.told(3),
            x.told(4)}, -1, -1, -1, -1, -1);
        Check.row("30, 36, 16: none", new long[] {x.byteAt(0), x.said(-1), x.said(0), x.undo()},
                -1, -1, -1, -1);
        Check.row("38: nothing is kept", new long[] {x.restore(0) ? 1 : 0, x.restore(1) ? 1 : 0},
                0, 0);
    }

    /** "Twenty bytes come behind the tape, of each number the highest first: how many it has" */
    private static void feedOfBytes() {
        FinalLinks x = new FinalLinks();
        // "block abcdefg;block " in the order in which the bytes come
        Check.due("2: twenty", x.feed(0x626C6F63, 0x6B206162, 0x63646566, 0x673B626C, 0x6F636B20),
                20);
        // "hi on abcdefg;", then blanks
        Check.due("2: forty", x.feed(0x6869206F, 0x6E206162, 0x63646566, 0x673B2020, 0x20202020),
                40);
        Check.row("2: read", new long[] {x.count(4), x.chain(), x.count(4), x.count(1)},
                40, 2, 0, 2);
        // Each of the twenty at its own place: a sign that is no TOKEN is the FAULT.
        for (int at = 0; at < 20; at++) {
            int[] n = {0x20202020, 0x20202020, 0x20202020, 0x20202020, 0x20202020};
            n[at / 4] ^= 0xDF << 24 - 8 * (at % 4);
            FinalLinks y = new FinalLinks();
            y.feed(n[0], n[1], n[2], n[3], n[4]);
            Check.due("2: byte " + at, y.chain(), -1 - at);
        }
    }

    /** "NONE, and none come, if it would have more than 940" */
    private static void feedUpTo940() {
        int blanks = 0x20202020;
        FinalLinks x = new FinalLinks();
        for (int i = 1; i <= 47; i++) {
            Check.due("2: feed " + i, x.feed(blanks, blanks, blanks, blanks, blanks), 20 * i);
        }
        Check.row("2: full", new long[] {x.feed(0, 0, 0, 0, 0), x.count(4)}, -1, 940);
        for (int more = 939; more > 920; more--) {
            x.end(more);
            Check.row("2: with " + more, new long[] {x.feed(0, 0, 0, 0, 0), x.count(4)},
                    -1, more);
        }
        x.end(920);
        Check.row("2: with 920", new long[] {x.feed(0, 0, 0, 0, 0), x.count(4)}, 940, 940);
        x.end(921);
        x.end(919);
        Check.due("2: with 919", x.feed(blanks, blanks, blanks, blanks, blanks), 939);
        x.end(900);
        Check.due("2: none of the refused bytes came", x.chain(), 0);
    }

    /** "The tape has its first n bytes alone: true; false, if it has not so many, or below 0" */
    private static void endOfTape() {
        FinalLinks x = new FinalLinks();
        Check.row("3: empty", new long[] {x.end(-1) ? 1 : 0, x.end(0) ? 1 : 0, x.end(1) ? 1 : 0},
                0, 1, 0);
        Check.put(x, "block r;block p on r;");
        Check.row("3: 21", new long[] {x.end(22) ? 1 : 0, x.count(4), x.end(21) ? 1 : 0,
            x.count(4), x.end(20) ? 1 : 0, x.count(4)}, 0, 21, 1, 21, 1, 20);
        Check.row("3: not again", new long[] {x.end(21) ? 1 : 0, x.count(4)}, 0, 20);
        Check.row("3: below 0", new long[] {x.end(-1) ? 1 : 0, x.count(4),
            x.end(Integer.MIN_VALUE) ? 1 : 0, x.count(4)}, 0, 20, 0, 20);
        Check.row("3: the first 8", new long[] {x.end(8) ? 1 : 0, x.chain(), x.count(4)}, 1, 1, 0);
        // What stood behind the n-th byte is no part of a TOKEN that ends there.
        Check.put(x, "leafs");
        Check.row("3: a word is cut", new long[] {x.end(4) ? 1 : 0, x.sentence(), x.fault()},
                1, 1, 0);
        Check.put(x, "number<10");
        Check.row("3: a number is cut", new long[] {x.end(8) ? 1 : 0, x.sentence(), x.said(-1)},
                1, 1, 1);
        Check.put(x, "block abcdefgh");
        Check.row("3: a letter too many is cut", new long[] {x.end(13) ? 1 : 0, x.chain(),
            x.fault()}, 1, -14, 1);
        Check.put(x, "block r;");
        Check.row("3: none", new long[] {x.end(0) ? 1 : 0, x.count(4), x.chain(), x.count(1)},
                1, 0, 0, 0);
    }

    /** "how many LINES; -1 less the place of a FAULT: it stays", "(empty then, with a FAULT" */
    private static void chainOfTape() {
        FinalLinks x = new FinalLinks();
        Check.row("4: a fault at 0", new long[] {Check.chain(x, "!"), x.count(4)}, -1, 0);
        Check.row("4: a fault at 1", new long[] {Check.chain(x, " !"), x.count(4)}, -2, 0);
        Check.row("4: one line", new long[] {Check.chain(x, "block r;"), x.count(4), x.count(1)},
                1, 0, 1);
        Check.row("4: a fault", new long[] {Check.chain(x, "voter a 1;"), x.count(1)}, 1, 0);
        Check.row("4: it stays", new long[] {Check.chain(x, "block r;!"), x.count(0), x.count(1),
            x.count(4)}, -9, 1, 0, 0);
        Check.row("4: no line", new long[] {x.chain(), x.count(0)}, 0, 0);
    }

    /** "of the latest chain(), book() or sentence() (a book() of -1000 leaves it); 0 without" */
    private static void faultOfTexts() {
        FinalLinks x = new FinalLinks();
        String nine = Texts.voters(9);
        String[] texts = {"!", "epoch 5;", "block r;epoch 1;", nine};
        for (int kind = 1; kind <= 4; kind++) {
            Check.chain(x, texts[kind - 1]);
            Check.due("5: of chain", x.fault(), kind);
            Check.row("5: left by -1000", new long[] {x.book(2), x.book(-1), x.fault()},
                    -1000, -1000, kind);
        }
        Check.chain(x, "block r;");
        Check.due("5: none of chain", x.fault(), 0);
        Check.book(x, 0, "!");
        Check.due("5: of book", x.fault(), 1);
        Check.book(x, 0, "grow z;");
        Check.due("5: of book, 3", x.fault(), 3);
        Check.book(x, 0, "grow r;");
        Check.due("5: none of book", x.fault(), 0);
        Check.book(x, 0, Texts.times("grow r;", 41));
        Check.due("5: of book, 4", x.fault(), 4);
        Check.sentence(x, "leaf");
        Check.due("5: none of sentence", x.fault(), 0);
        Check.sentence(x, "under z");
        Check.due("5: of sentence, 3", x.fault(), 3);
        Check.sentence(x, Texts.times("not ", 8) + "leaf");
        Check.due("5: of sentence, 4", x.fault(), 4);
        // A LINE that is WRONG is no FAULT.
        Check.book(x, 0, Texts.times("grow r;", 21));
        Check.row("5: none of a wrong line", new long[] {x.fault(), x.told(0)}, 0, 21);
        x.votes(0, 0, 0);
        x.image(0);
        Check.sentence(x, "!");
        x.restore(0);
        Check.due("5: no other call tells one", x.fault(), 1);
    }

    /** "Of a BLOCK: 0 .. (NONE), .. 2 LEVEL (NONE: no POINT), .. 4 .. (NONE)", "another what" */
    private static void blockEdges() {
        FinalLinks x = Check.withChain(TWO_LONG);
        Check.row("6: the first", new long[] {x.block(0, 0), x.block(0, 1), x.block(0, 2),
            x.block(0, 3), x.block(0, 4), x.block(0, 5), x.block(0, 6), x.block(0, 7)},
                -1, 0, 0, 2, -1, 1, 1, 0);
        Check.row("6: the last", new long[] {x.block(4, 0), x.block(4, 1), x.block(4, 2),
            x.block(4, 3), x.block(4, 4), x.block(4, 5), x.block(4, 6), x.block(4, 7)},
                3, 4, 2, 0, -1, 0, 0, 0);
        Check.row("6: no point, a change", new long[] {x.block(1, 2), x.block(2, 4)}, -1, 1);
        for (int what = 0; what < 8; what++) {
            int w = what;
            Check.throwing("6: block -1, " + what, () -> x.block(-1, w));
            Check.throwing("6: block 5, " + what, () -> x.block(5, w));
        }
        Check.throwing("6: what -1", () -> x.block(4, -1));
        Check.throwing("6: what 8", () -> x.block(4, 8));
        FinalLinks wide = Check.withChain(Texts.blocks(20));
        Check.row("6: blocks on it, up to the last", new long[] {wide.block(0, 3),
            wide.block(19, 3), wide.block(19, 0)}, (1 << 20) - 2, 0, 0);
        Check.throwing("6: block 20", () -> wide.block(20, 0));
    }

    /** "Whether the first is AHEAD of the second (1, 0); NONE: no such ones." */
    private static void aheadEdges() {
        FinalLinks x = Check.withChain(FORKED);
        Check.row("7: ahead", new long[] {x.ahead(0, 1), x.ahead(0, 3), x.ahead(1, 2),
            x.ahead(1, 0), x.ahead(3, 0), x.ahead(1, 3), x.ahead(3, 3), x.ahead(0, 0)},
                1, 1, 1, 0, 0, 0, 0, 0);
        Check.row("7: no such ones", new long[] {x.ahead(-1, 0), x.ahead(4, 0), x.ahead(0, -1),
            x.ahead(0, 4), x.ahead(-1, -1), x.ahead(4, 4)}, -1, -1, -1, -1, -1, -1);
        x.grows(3);
        Check.row("7: one more", new long[] {x.ahead(0, 4), x.ahead(3, 4), x.ahead(4, 3),
            x.ahead(0, 5)}, 1, 1, 0, -1);
        x.undo();
        Check.due("7: one less", x.ahead(0, 4), -1);
    }

    /** "The last BLOCK that is AHEAD of both, or is one of them and AHEAD of (or) the other" */
    private static void forkEdges() {
        FinalLinks x = Check.withChain(FORKED + "block t on q;block u on q;");
        Check.row("8: ahead of both", new long[] {x.fork(1, 3), x.fork(2, 3), x.fork(4, 5),
            x.fork(5, 4), x.fork(4, 3)}, 0, 0, 2, 2, 0);
        Check.row("8: one of them", new long[] {x.fork(1, 2), x.fork(2, 1), x.fork(0, 5),
            x.fork(5, 0), x.fork(1, 4)}, 1, 1, 0, 0, 1);
        Check.row("8: both", new long[] {x.fork(0, 0), x.fork(3, 3), x.fork(5, 5)}, 0, 3, 5);
        Check.row("8: no such ones", new long[] {x.fork(-1, 0), x.fork(6, 0), x.fork(0, -1),
            x.fork(0, 6), x.fork(6, 6)}, -1, -1, -1, -1, -1);
        FinalLinks wide = Check.withChain(Texts.blocks(20));
        Check.row("8: of twenty", new long[] {wide.fork(19, 19), wide.fork(19, 18),
            wide.fork(19, 0), wide.fork(20, 0)}, 19, 0, 0, -1);
    }

    /** "WEIGHT of a VOTER by a POINT; NONE: no such ones." */
    private static void weightEdges() {
        FinalLinks x = Check.withChain(TWO_LONG);
        Check.row("9: points", new long[] {x.weight(0, 0), x.weight(0, 1), x.weight(2, 1),
            x.weight(4, 1), x.weight(4, 0)}, 2, 1, 9, 9, 2);
        Check.row("9: no points", new long[] {x.weight(1, 0), x.weight(3, 1)}, -1, -1);
        Check.row("9: no such ones", new long[] {x.weight(-1, 0), x.weight(5, 0), x.weight(0, -1),
            x.weight(0, 2), x.weight(-1, -1)}, -1, -1, -1, -1, -1);
        FinalLinks eight = Check.withChain(Texts.voters(8) + Texts.blocks(20));
        Check.row("9: the last ones", new long[] {eight.weight(19, 7), eight.weight(19, 8),
            eight.weight(20, 7)}, 1, -1, -1);
    }

    /** "Of a VOTER: .. 2 its LOOK (NONE), .. NONE, too: no such ones." */
    private static void voterEdges() {
        FinalLinks x = Check.withChain(TWO_LONG);
        Check.row("10: the first", new long[] {x.voter(0, 0), x.voter(0, 1), x.voter(0, 2),
            x.voter(0, 3)}, 2, 0, -1, 0);
        x.looks(1, 0);
        x.votes(1, 0, 2);
        Check.row("10: the last", new long[] {x.voter(1, 0), x.voter(1, 1), x.voter(1, 2),
            x.voter(1, 3)}, 1, 1, 0, 0);
        Check.row("10: not the other one", new long[] {x.voter(0, 1), x.voter(0, 2)}, 0, -1);
        x.votes(1, 0, 4);
        Check.row("10: no offence", new long[] {x.voter(1, 1), x.voter(1, 3)}, 2, 0);
        x.votes(1, 2, 4);
        Check.row("10: an offence", new long[] {x.voter(1, 1), x.voter(1, 3), x.voter(0, 3)},
                3, 1, 0);
        for (int what = 0; what < 4; what++) {
            Check.row("10: no such voter, " + what, new long[] {x.voter(-1, what),
                x.voter(2, what)}, -1, -1);
        }
        Check.row("10: another what", new long[] {x.voter(0, -1), x.voter(0, 4)}, -1, -1);
        FinalLinks eight = Check.withChain(Texts.voters(8));
        Check.row("10: of eight", new long[] {eight.voter(7, 0), eight.voter(8, 0)}, 1, -1);
    }

    /** "Of a VOTE: 0 the VOTER, 1 the SOURCE, 2 the TARGET. NONE: no such ones." */
    private static void voteEdges() {
        FinalLinks x = Check.withChain(FORKED);
        Check.due("11: none yet", x.vote(0, 0), -1);
        x.votes(2, 1, 2);
        Check.row("11: one", new long[] {x.vote(0, 0), x.vote(0, 1), x.vote(0, 2)}, 2, 1, 2);
        Check.row("11: no such ones", new long[] {x.vote(-1, 0), x.vote(1, 0), x.vote(1, 1),
            x.vote(1, 2), x.vote(0, -1), x.vote(0, 3)}, -1, -1, -1, -1, -1, -1);
        x.undo();
        Check.due("11: none again", x.vote(0, 0), -1);
    }

    /** "no such ones (the SOURCE must be a POINT AHEAD of the TARGET, a POINT), another what" */
    private static void linkEdges() {
        FinalLinks x = Check.withChain(TWO_LONG);
        Check.row("12: r to p", new long[] {x.link(0, 2, 0), x.link(0, 2, 1), x.link(0, 2, 2),
            x.link(0, 2, 3), x.link(0, 2, 4), x.link(0, 2, 5)}, 0, 0, 3, 0, 3, 0);
        Check.row("12: r to q", new long[] {x.link(0, 4, 0), x.link(0, 4, 1), x.link(0, 4, 2),
            x.link(0, 4, 3), x.link(0, 4, 4), x.link(0, 4, 5)}, 0, 0, 11, 0, 3, 0);
        int[][] none = {{0, 1}, {0, 3}, {1, 2}, {1, 3}, {3, 4}, {2, 0}, {4, 2}, {0, 0}, {2, 2},
            {4, 4}, {-1, 2}, {0, -1}, {0, 5}, {5, 4}, {5, 5}, {-1, -1}};
        for (int[] n : none) {
            for (int what = 0; what < 6; what++) {
                int w = what;
                Check.throwing("12: " + n[0] + " to " + n[1], () -> x.link(n[0], n[1], w));
            }
        }
        Check.throwing("12: what -1", () -> x.link(0, 2, -1));
        Check.throwing("12: what 6", () -> x.link(0, 2, 6));
        FinalLinks y = Check.withChain(FORKED);
        Check.throwing("12: beside one another", () -> y.link(1, 3, 0));
    }

    /** "A VOTER VOTES: 0, or why not; NONE: no such ones." */
    private static void votesEdges() {
        FinalLinks x = Check.withChain(TWO_LONG);
        Check.row("13: no such ones", new long[] {x.votes(-1, 0, 2), x.votes(2, 0, 2),
            x.votes(0, -1, 2), x.votes(0, 5, 2), x.votes(0, 0, -1), x.votes(0, 0, 5)},
                -1, -1, -1, -1, -1, -1);
        Check.row("13: NONE ahead of why not", new long[] {x.votes(2, 1, 1), x.votes(-1, 2, 0),
            x.votes(0, 1, 5), x.votes(0, -1, 3)}, -1, -1, -1, -1);
        Check.row("13: the first, the last", new long[] {x.votes(0, 0, 2), x.votes(1, 2, 4)},
                0, 0);
        Check.due("13: two", x.now(3), 2);
    }

    /** "A VOTER LOOKS at a BLOCK: 0, or why not; NONE: no such ones." */
    private static void looksEdges() {
        FinalLinks x = Check.withChain(TWO_LONG);
        Check.row("14: no such ones", new long[] {x.looks(-1, 0), x.looks(2, 0), x.looks(0, -1),
            x.looks(0, 5)}, -1, -1, -1, -1);
        Check.row("14: -1 is not the look that none has", new long[] {x.looks(0, -1),
            x.voter(0, 2), x.undo()}, -1, -1, -1);
        Check.row("14: the first, the last, no points, too", new long[] {x.looks(0, 0),
            x.looks(1, 4), x.looks(1, 3)}, 0, 0, 0);
        Check.row("14: they are", new long[] {x.voter(0, 2), x.voter(1, 2)}, 0, 3);
    }

    /** "A BLOCK GROWS: 0, or why not; NONE: no such one." */
    private static void growsEdges() {
        FinalLinks x = Check.withChain(FORKED);
        Check.row("15: no such one", new long[] {x.grows(-1), x.grows(4), x.count(1)}, -1, -1, 4);
        Check.row("15: the first, the last", new long[] {x.grows(0), x.grows(4), x.count(1),
            x.block(4, 0), x.block(5, 0)}, 0, 0, 6, 0, 4);
        FinalLinks full = Check.withChain(Texts.blocks(20));
        Check.row("15: full", new long[] {full.grows(19), full.grows(20), full.grows(-1)},
                1, -1, -1);
    }

    /** "how many more can be (8 at most are kept); NONE: none is." */
    private static void undoOfEight() {
        for (int acts = 0; acts <= 18; acts++) {
            FinalLinks x = Check.withChain(FORKED);
            for (int i = 0; i < acts; i++) {
                x.looks(0, i % 4);
            }
            int kept = Math.min(acts, 8);
            for (int left = kept - 1; left >= 0; left--) {
                Check.due("16: of " + acts, x.undo(), left);
                int at = acts - (kept - left) - 1;
                Check.due("16: the look before, of " + acts, x.voter(0, 2), at < 0 ? -1 : at % 4);
            }
            Check.row("16: no more, of " + acts, new long[] {x.undo(), x.undo()}, -1, -1);
            Check.due("16: the look at last, of " + acts, x.voter(0, 2),
                    acts <= 8 ? -1 : (acts - 9) % 4);
        }
    }

    /** "drawn() above 0 (not one that did nothing), a BOOK of which some LINE was lived" */
    private static void undoOfWhatWasDone() {
        FinalLinks x = Check.withChain(FORKED);
        x.votes(0, 1, 0);
        x.votes(9, 0, 1);
        x.looks(0, 9);
        x.grows(9);
        Check.due("16: not what was refused", x.undo(), -1);
        x.looks(0, 0);
        x.looks(0, 0);
        x.votes(0, 0, 1);
        x.votes(0, 0, 1);
        Check.row("16: twice refused", new long[] {x.undo(), x.undo(), x.undo()}, 1, 0, -1);
        FinalLinks alone = Check.withChain("block r;");
        // Without voters seed 1 does nothing, seed 0 grows.
        Check.row("16: drawn 0", new long[] {alone.drawn(1, 1), alone.undo()}, 0, -1);
        Check.row("16: drawn 1", new long[] {alone.drawn(1, 0), alone.undo(), alone.count(1)},
                1, 0, 1);
        Check.row("16: a book, its first line wrong", new long[] {
            Check.book(x, 1, "vote a p r;grow r;"), x.undo()}, 0, -1);
        Check.row("16: a book, its second line wrong", new long[] {
            Check.book(x, 1, "grow r;vote a p r;"), x.count(1), x.undo(), x.count(1)},
                1, 5, 0, 4);
        Check.row("16: a book without lines", new long[] {Check.book(x, 1, ""), x.undo()},
                -1, -1);
        Check.row("16: a book that is judged", new long[] {Check.book(x, 0, "grow r;"),
            x.undo()}, -1, -1);
        Check.row("16: a book with a fault", new long[] {Check.book(x, 1, "grow r;!"),
            x.undo()}, -9, -1);
        Check.row("16: a book of many lines is one", new long[] {
            Check.book(x, 1, "grow r;look a r;vote a r p;look a p;"), x.undo(), x.now(3),
            x.count(1), x.voter(0, 2)}, -1, 0, 0, 4, -1);
        x.odds(0, 20, 1);
        x.image(0);
        Check.sentence(x, "leaf");
        Check.due("16: not odds(), image(), sentence()", x.undo(), -1);
        x.grows(0);
        x.image(0);
        Check.due("16: image() leaves it", x.undo(), 0);
        x.grows(0);
        x.restore(0);
        Check.due("16: nothing behind restore()", x.undo(), -1);
    }

    /** "NONE: no such ones, it can not be (1 to 3 of VOTING)." */
    private static void offendsEdges() {
        FinalLinks x = Check.withChain(TWO_LONG + "block z on q;block w on z;");
        Check.row("17: no such ones", new long[] {x.offends(-1, 0, 2), x.offends(2, 0, 2),
            x.offends(0, -1, 2), x.offends(0, 0, 7), x.offends(0, 7, 2)}, -1, -1, -1, -1, -1);
        Check.row("17: 1, no point", new long[] {x.offends(0, 1, 2), x.offends(0, 0, 1),
            x.offends(0, 1, 3)}, -1, -1, -1);
        Check.row("17: 2, not ahead", new long[] {x.offends(0, 2, 0), x.offends(0, 2, 2)}, -1, -1);
        Check.due("17: 0 with none", x.offends(0, 2, 4), 0);
        x.votes(0, 2, 4);
        Check.row("17: 3, such a one", new long[] {x.offends(0, 2, 4), x.offends(1, 2, 4)}, -1, 0);
        Check.row("17: 0, 1, 2", new long[] {x.offends(0, 0, 2), x.offends(0, 0, 4),
            x.offends(0, 0, 6)}, 0, 1, 2);
        // The least, with any: by 2 with the first VOTE, by 1 with the other.
        x.votes(0, 2, 6);
        Check.row("17: the least", new long[] {x.offends(0, 0, 6), x.offends(0, 4, 6)}, 1, 1);
        Check.due("17: it is not done", x.now(3), 2);
        // The other way round: by 1 with the first VOTE, by 2 with the later one.
        FinalLinks y = Check.withChain(TWO_LONG + "block z on q;block w on z;");
        y.votes(0, 2, 6);
        y.votes(0, 2, 4);
        Check.due("17: the least, the first", y.offends(0, 0, 6), 1);
    }

    /** "The k-th pair .. (from 0; by the first by number, then the second)", "no such ones" */
    private static void evidenceEdges() {
        FinalLinks x = Check.withChain(FORKED + "block t on q;");
        x.votes(0, 0, 1);
        Check.row("18: one vote", new long[] {x.evidence(0, 0), x.now(6)}, -1, 0);
        x.votes(1, 0, 3);
        Check.row("18: of two voters", new long[] {x.evidence(0, 0), x.now(6)}, -1, 0);
        x.votes(0, 0, 3);
        Check.row("18: a pair", new long[] {x.evidence(0, 0), x.evidence(0, 1), x.evidence(0, 2),
            x.now(6)}, 0, 2, 1, 1);
        Check.row("18: no such ones", new long[] {x.evidence(-1, 0), x.evidence(1, 0),
            x.evidence(0, -1), x.evidence(0, 3)}, -1, -1, -1, -1);
        x.votes(1, 1, 2);
        x.votes(1, 0, 1);
        x.votes(1, 0, 4);
        // 0 a r p, 1 b r s, 2 a r s, 3 b p q, 4 b r p, 5 b r t: 0 2, 1 4, 3 5.
        Check.row("18: by the first", new long[] {x.evidence(1, 0), x.evidence(1, 1),
            x.evidence(1, 2), x.evidence(2, 0), x.evidence(2, 1), x.evidence(2, 2),
            x.evidence(3, 0), x.now(6)}, 1, 4, 1, 3, 5, 2, -1, 3);
        x.undo();
        Check.row("18: undone", new long[] {x.evidence(1, 0), x.evidence(2, 0), x.now(6)},
                1, -1, 2);
        x.undo();
        Check.row("18: undone again", new long[] {x.evidence(0, 0), x.evidence(1, 0), x.now(6)},
                0, -1, 1);
        FinalLinks y = Check.withChain("voter a 1;block r;block p on r;block q on r;"
                + "block s on r;");
        y.votes(0, 0, 3);
        y.votes(0, 0, 1);
        y.votes(0, 0, 2);
        Check.row("18: then the second", new long[] {y.evidence(0, 0), y.evidence(0, 1),
            y.evidence(1, 0), y.evidence(1, 1), y.evidence(2, 0), y.evidence(2, 1),
            y.evidence(3, 0), y.now(6)}, 0, 1, 0, 2, 1, 2, -1, 3);
    }

    /** "7 the BASE (NONE: no BLOCKS), 8 the CHOICE (likewise). NONE for another what." */
    private static void nowEdges() {
        FinalLinks none = Check.withChain("voter a 1;");
        Check.row("19: no blocks", new long[] {none.now(0), none.now(1), none.now(7),
            none.now(8)}, 0, 0, -1, -1);
        FinalLinks x = Check.withChain(FORKED);
        Check.row("19: all", new long[] {x.now(-1), x.now(0), x.now(1), x.now(2), x.now(3),
            x.now(4), x.now(5), x.now(6), x.now(7), x.now(8), x.now(9)},
                -1, 1, 1, 0, 0, 0, 0, 0, 0, 2, -1);
        x.votes(0, 0, 1);
        Check.row("19: a link that does not count", new long[] {x.now(3), x.now(4), x.now(5)},
                1, 1, 0);
        x.votes(1, 0, 1);
        Check.row("19: it counts", new long[] {x.now(0), x.now(3), x.now(4), x.now(5), x.now(7)},
                3, 2, 1, 1, 1);
        // All twenty are JUST: the highest bit is that of the last one.
        FinalLinks wide = Check.withChain("voter a 1;" + Texts.blocks(20));
        for (int t = 1; t < 20; t++) {
            wide.votes(0, 0, t);
        }
        Check.row("19: twenty", new long[] {wide.now(0), wide.now(2), wide.now(3), wide.now(4),
            wide.now(5), wide.now(6), wide.now(7)}, (1 << 20) - 1, 1, 19, 19, 19, 171, 1);
    }

    /** "The k-th BLOCK (from 0: the BASE) of the CHOSEN WAY; NONE: none such." */
    private static void chosenEdges() {
        FinalLinks x = Check.withChain(FORKED);
        Check.row("20: three", new long[] {x.chosen(-1), x.chosen(0), x.chosen(1), x.chosen(2),
            x.chosen(3)}, -1, 0, 1, 2, -1);
        x.votes(0, 0, 3);
        x.votes(1, 0, 3);
        Check.row("20: one", new long[] {x.chosen(-1), x.chosen(0), x.chosen(1)}, -1, 3, -1);
        FinalLinks none = Check.withChain("voter a 1;");
        Check.row("20: no blocks", new long[] {none.chosen(0), none.chosen(-1)}, -1, -1);
    }

    /** "NONE: there are not so many, no such ones (as for link())", "NONE ahead of any" */
    private static void needEdges() {
        FinalLinks x = Check.withChain(TWO_LONG);
        Check.due("22: ahead of any", x.needed(), -1);
        int[][] none = {{0, 1}, {0, 3}, {1, 2}, {1, 3}, {2, 0}, {0, 0}, {2, 2}, {-1, 2}, {0, -1},
            {0, 5}, {5, 4}};
        for (int[] n : none) {
            Check.row("21: " + n[0] + " to " + n[1], new long[] {x.need(n[0], n[1]), x.needed()},
                    -1, -1);
        }
        Check.row("21: one", new long[] {x.need(0, 2), x.needed()}, 1, 1);
        Check.row("21: both", new long[] {x.need(2, 4), x.needed()}, 2, 3);
        Check.row("22: NONE leaves it", new long[] {x.need(0, 1), x.needed()}, -1, 3);
        x.votes(0, 0, 2);
        Check.row("21: 0, it counts", new long[] {x.need(0, 2), x.needed()}, 0, 0);
        x.votes(0, 2, 4);
        Check.row("21: one is left", new long[] {x.need(2, 4), x.needed()}, 1, 2);
        Check.row("21: there are not so many", new long[] {x.need(0, 4), x.needed()}, -1, 2);
        x.undo();
        Check.due("22: other calls leave it", x.needed(), 2);
    }

    /** "NONE: by none, no such one", "(NONE: it was JUST); NONE ahead of any" */
    private static void wayEdges() {
        FinalLinks x = Check.withChain(TWO_LONG);
        Check.due("24: ahead of any", x.wayFrom(), -1);
        Check.row("23: no such one", new long[] {x.way(-1), x.way(5), x.way(1), x.way(3),
            x.wayFrom()}, -1, -1, -1, -1, -1);
        Check.row("23: one", new long[] {x.way(2), x.wayFrom()}, 1, 0);
        Check.row("24: NONE leaves it", new long[] {x.way(1), x.wayFrom()}, -1, 0);
        Check.row("24: it was just", new long[] {x.way(0), x.wayFrom()}, 0, -1);
        x.votes(0, 0, 2);
        Check.row("23: the last", new long[] {x.way(4), x.wayFrom()}, 2, 0);
        x.votes(0, 2, 4);
        Check.row("23: the least", new long[] {x.way(4), x.wayFrom()}, 1, 2);
        x.need(0, 2);
        x.undo();
        Check.due("24: other calls leave it", x.wayFrom(), 2);
        FinalLinks zero = Check.withChain("voter a 0;block r;block p on r;");
        Check.row("23: by none", new long[] {zero.way(1), zero.wayFrom(), zero.way(0)}, -1, -1, 0);
    }

    /** "Its first (0), second POINT (1); NONE: there is none, another k." */
    private static void clashEdges() {
        FinalLinks x = Check.withChain("voter a 1;block r;block p on r;block q on r;"
                + "block s on p;block t on q;");
        Check.row("25: none", new long[] {x.clash(), x.clashAt(-1), x.clashAt(0), x.clashAt(1),
            x.clashAt(2)}, 0, -1, -1, -1, -1);
        int[][] links = {{0, 2}, {2, 4}, {0, 1}};
        for (int[] l : links) {
            x.votes(0, l[0], l[1]);
            Check.row("25: none yet", new long[] {x.clash(), x.clashAt(0)}, 0, -1);
        }
        x.votes(0, 1, 3);
        Check.row("26: p and q", new long[] {x.clash(), x.clashAt(-1), x.clashAt(0), x.clashAt(1),
            x.clashAt(2)}, 1, -1, 1, 2, -1);
    }

    /** "NoSuchElementException: all WEIGHTS as told are 0, another what." */
    private static void guiltEdges() {
        FinalLinks x = Check.withChain("voter a 0;voter b 1;block r change b 0;block p on r;");
        Check.row("27: of one", new long[] {x.guilt(0), x.guilt(1)}, 0, 1);
        Check.throwing("27: what -1", () -> x.guilt(-1));
        Check.throwing("27: what 2", () -> x.guilt(2));
        FinalLinks zero = Check.withChain("voter a 0;voter b 0;block r change b 1;block p on r;");
        Check.throwing("27: all are 0, above", () -> zero.guilt(0));
        Check.throwing("27: all are 0, below", () -> zero.guilt(1));
        FinalLinks none = Check.withChain("block r;");
        Check.throwing("27: no voters", () -> none.guilt(0));
    }

    /** "NoSuchElementException: there are no BLOCKS, another what." */
    private static void meanEdges() {
        FinalLinks x = Check.withChain("block r;");
        Check.row("28: of one", new long[] {x.mean(0), x.mean(1)}, 0, 1);
        Check.throwing("28: what -1", () -> x.mean(-1));
        Check.throwing("28: what 2", () -> x.mean(2));
        FinalLinks none = Check.withChain("voter a 1;");
        Check.throwing("28: no blocks, above", () -> none.mean(0));
        Check.throwing("28: no blocks, below", () -> none.mean(1));
    }

    /** "how many bytes; NONE: no such one", "Byte i of the latest TAG; NONE: none such" */
    private static void tagEdges() {
        FinalLinks x = Check.withChain(FORKED);
        Check.row("29: no votes", new long[] {x.tag(-1), x.tag(0), x.byteAt(0), x.byteAt(-1)},
                -1, -1, -1, -1);
        x.votes(1, 0, 1);
        Check.due("30: ahead of any tag", x.byteAt(0), -1);
        Check.row("29: one", new long[] {x.tag(-1), x.tag(0), x.tag(1)}, -1, 13, -1);
        // b from 0 to 1
        Check.row("30: bytes", new long[] {x.byteAt(-1), x.byteAt(0), x.byteAt(1), x.byteAt(7),
            x.byteAt(11), x.byteAt(12), x.byteAt(13)}, -1, 'b', ' ', '0', ' ', '1', -1);
        x.undo();
        Check.row("30: it stays", new long[] {x.tag(0), x.byteAt(0), x.byteAt(12)}, -1, 'b', '1');
        // A shorter one leaves nothing of a longer one.
        FinalLinks y = Check.withChain("voter abcdefg 1;voter z 1;block r;block p on r;");
        y.votes(0, 0, 1);
        y.votes(1, 0, 1);
        Check.row("30: the longer one", new long[] {y.tag(0), y.byteAt(18), y.byteAt(19)},
                19, '1', -1);
        Check.row("30: the shorter one", new long[] {y.tag(1), y.byteAt(12), y.byteAt(13),
            y.byteAt(18)}, 13, '1', -1, -1);
    }

    /** "n (1 to 60) DEEDS DRAWN by a seed: how many were done; NONE: not as told." */
    private static void drawnEdges() {
        FinalLinks x = Check.withChain(FORKED);
        Check.row("31: not as told", new long[] {x.drawn(-1, 0), x.drawn(0, 0), x.drawn(61, 0),
            x.drawn(62, 0), x.undo()}, -1, -1, -1, -1, -1);
        Check.row("31: one", new long[] {x.drawn(1, 0), x.count(1), x.undo()}, 1, 5, 0);
        int sixty = x.drawn(60, 0);
        Check.due("31: sixty", sixty > 0 && sixty <= 60, true);
        long[] behind = Snapshot.of(x);
        FinalLinks z = Check.withChain(FORKED);
        int s = 0;
        int due = 0;
        for (int i = 0; i < 60; i++) {
            s = s * 1103515245 + 12345;
            int sort = (s >>> 8) % 8;
            s = s * 1103515245 + 12345;
            int b = (s >>> 8) % z.count(1);
            if (sort == 0) {
                due += z.grows(b) == 0 ? 1 : 0;
                continue;
            }
            s = s * 1103515245 + 12345;
            int v = (s >>> 8) % 3;
            if (sort < 3) {
                due += z.looks(v, b) == 0 ? 1 : 0;
                continue;
            }
            s = s * 1103515245 + 12345;
            due += z.votes(v, b, (s >>> 8) % z.count(1)) == 0 ? 1 : 0;
        }
        Check.due("31: so many were done", sixty, due);
        Check.row("31: all sixty", behind, Snapshot.of(z));
        Check.row("31: it is one act", new long[] {x.undo(), x.undo(), x.count(1)}, 0, -1, 4);
    }

    private static int timesOnWay(String chain, int b, int from, int many) {
        int times = 0;
        int seed = from;
        for (int i = 0; i < many; i++) {
            FinalLinks x = Check.withChain(chain);
            x.drawn(12, seed);
            for (int k = 0; k < 20; k++) {
                times += x.chosen(k) == b ? 1 : 0;
            }
            seed++;
        }
        return times;
    }

    /** "Of n (1 to 20) seeds x, x and 1, .. behind 12 DEEDS .. NONE: no such ones." */
    private static void oddsEdges() {
        FinalLinks x = Check.withChain(FORKED);
        Check.row("32: no such ones", new long[] {x.odds(-1, 1, 0), x.odds(4, 1, 0),
            x.odds(0, -1, 0), x.odds(0, 0, 0), x.odds(0, 21, 0)}, -1, -1, -1, -1, -1);
        int[] seeds = {0, -1, -10, Integer.MAX_VALUE, Integer.MAX_VALUE - 3, Integer.MIN_VALUE};
        for (int b = 0; b < 4; b++) {
            for (int seed : seeds) {
                Check.row("32: of " + b + " by " + seed, new long[] {x.odds(b, 1, seed),
                    x.odds(b, 2, seed), x.odds(b, 19, seed), x.odds(b, 20, seed)},
                        timesOnWay(FORKED, b, seed, 1), timesOnWay(FORKED, b, seed, 2),
                        timesOnWay(FORKED, b, seed, 19), timesOnWay(FORKED, b, seed, 20));
            }
        }
        long[] before = Snapshot.of(x);
        x.odds(3, 20, 5);
        Check.row("32: all stays", Snapshot.of(x), before);
        Check.due("32: nothing to undo", x.undo(), -1);
        FinalLinks full = Check.withChain("voter a 1;" + Texts.blocks(20));
        Check.row("32: the last block", new long[] {full.odds(19, 20, 0), full.odds(20, 20, 0)},
                timesOnWay("voter a 1;" + Texts.blocks(20), 19, 0, 20), -1);
    }

    /** "the LINE that is WRONG (from 0); NONE: none; -2 less the place of a FAULT; -1000" */
    private static void bookEdges() {
        FinalLinks x = Check.withChain(FORKED);
        Check.row("33: none wrong", new long[] {Check.book(x, 0, ""), Check.book(x, 0, "grow r;")},
                -1, -1);
        Check.row("33: the first wrong", new long[] {Check.book(x, 0, "vote a r r;"), x.told(0),
            x.told(1)}, 0, 2, 0);
        Check.row("33: the second wrong", new long[] {
            Check.book(x, 0, "vote a r p;vote a r p;grow r;"), x.told(0), x.told(1)}, 1, 3, 1);
        Check.row("33: a fault at 0", new long[] {Check.book(x, 0, "!"), x.count(4)}, -2, 0);
        Check.row("33: a fault at 1", new long[] {Check.book(x, 0, " !"), x.count(4)}, -3, 0);
        int[] others = {-1, 2, Integer.MIN_VALUE, Integer.MAX_VALUE, -1000};
        for (int lives : others) {
            Check.put(x, "grow r;");
            Check.row("33: lives " + lives, new long[] {x.book(lives), x.count(4), x.count(1),
                x.told(0)}, -1000, 7, 4, 3);
        }
        Check.row("33: lives 1", new long[] {x.book(1), x.count(4), x.count(1)}, -1, 0, 5);
        // The last of forty LINES is WRONG, or none of them is.
        String forty = Texts.times("look a r;look a p;", 19) + "look a r;";
        Check.row("33: the last wrong", new long[] {Check.book(x, 0, forty + "look a r;"),
            x.told(0), x.told(1)}, 39, 11, 39);
        Check.row("33: none of forty", new long[] {Check.book(x, 0, forty + "look a p;"),
            x.told(0), x.told(1)}, -1, 0, 40);
    }

    /** "judged, all staying as it is (lives 0), or lived as far as it is not WRONG (1)" */
    private static void bookLives() {
        FinalLinks x = Check.withChain(FORKED);
        x.votes(2, 0, 1);
        x.looks(0, 3);
        Check.sentence(x, "leaf");
        Check.book(x, 0, "");
        String book = "vote a r p;look a q;grow q;look b q;vote a r p;grow s;";
        long[] before = Snapshot.of(x);
        Check.due("33: judged", Check.book(x, 0, book), 4);
        Check.row("34: told", new long[] {x.told(0), x.told(1), x.told(2), x.told(3)}, 3, 4, 1, 4);
        Check.book(x, 0, "");
        Check.row("33: all stays", Snapshot.of(x), before);
        Check.due("33: lived", Check.book(x, 1, book), 4);
        Check.row("34: told the same", new long[] {x.told(0), x.told(1), x.told(2), x.told(3)},
                3, 4, 1, 4);
        Check.row("33: as far as it is not wrong", new long[] {x.now(3), x.voter(0, 2),
            x.voter(1, 2), x.count(1), x.now(1), x.now(8)}, 2, 2, 2, 5, 1, 4);
        Check.row("33: one act", new long[] {x.undo(), x.now(3), x.count(1), x.voter(0, 2)},
                2, 1, 4, 3);
    }

    /** "0 why it was WRONG (0: it was not; 1 to 4 voting, 11 looking, 21 growing), .." */
    private static void toldEdges() {
        FinalLinks x = Check.withChain(TWO_LONG);
        Check.row("34: ahead of any", new long[] {x.told(0), x.told(1), x.told(2), x.told(3)},
                -1, -1, -1, -1);
        Check.book(x, 0, "!");
        x.book(5);
        Check.row("34: a fault, and -1000, are none", new long[] {x.told(0), x.told(3)}, -1, -1);
        String[] books = {"", "vote a x q;", "vote a q r;", "vote a r q;vote a r q;",
            "look b y;look b y;", Texts.times("grow x;", 16)};
        long[] why = {0, 1, 2, 3, 11, 21};
        long[] lines = {0, 0, 0, 1, 1, 15};
        for (int i = 0; i < books.length; i++) {
            Check.book(x, 0, books[i]);
            Check.row("34: " + books[i], new long[] {x.told(-1), x.told(0), x.told(1), x.told(4)},
                    -1, why[i], lines[i], -1);
        }
        Check.book(x, 0, "vote a r p;vote a p q;vote b p q;");
        Check.row("34: final points and the choice then", new long[] {x.told(0), x.told(1),
            x.told(2), x.told(3), x.now(1), x.now(8)}, 0, 3, 5, 4, 1, 4);
        Check.book(x, 1, "grow ;");
        x.book(-1);
        Check.row("34: a fault, and -1000, leave it", new long[] {x.told(0), x.told(1), x.told(2),
            x.told(3)}, 0, 3, 5, 4);
        FinalLinks none = new FinalLinks();
        Check.book(none, 1, "");
        Check.row("34: without blocks", new long[] {none.told(0), none.told(1), none.told(2),
            none.told(3)}, 0, 0, 0, -1);
        FinalLinks full = Check.withChain(Texts.voters(8) + Texts.blocks(20));
        for (int i = 0; i < 47; i++) {
            full.votes(i % 8, 0, 1 + i / 8);
        }
        Check.book(full, 0, "vote ah ra rg;vote aa ra rh;");
        Check.row("34: 4, there are 48", new long[] {full.told(0), full.told(1)}, 4, 1);
    }

    /** "how many ONES (each not, bracket and other one); -1 less the place of a FAULT: it stays" */
    private static void sentenceEdges() {
        FinalLinks x = Check.withChain(FORKED);
        Check.row("35: a fault at 0", new long[] {Check.sentence(x, ""), x.said(-1)}, -1, -1);
        Check.row("35: a fault at 1", new long[] {Check.sentence(x, " "), x.said(-1)}, -2, -1);
        Check.row("35: one", new long[] {Check.sentence(x, "leaf"), x.count(4), x.said(-1)},
                1, 0, 2);
        Check.row("35: each is one", new long[] {Check.sentence(x, "not leaf"),
            Check.sentence(x, "(leaf)"), Check.sentence(x, "height<1"),
            Check.sentence(x, "under p"), Check.sentence(x, "not(not leaf or(just))and level=0")},
                2, 2, 1, 1, 7);
        Check.sentence(x, "number = 3");
        Check.row("35: it stays", new long[] {Check.sentence(x, "leaf or just or !"), x.count(4),
            x.said(-1), x.said(0)}, -17, 0, 1, 3);
        Check.row("35: twenty", new long[] {Check.sentence(x, "leaf" + Texts.times(" or leaf", 19)),
            x.said(-1)}, 20, 2);
    }

    /** "how many (k NONE), or the k-th. NONE: there is no SENTENCE, none such." */
    private static void saidEdges() {
        FinalLinks x = Check.withChain(FORKED);
        Check.row("36: no sentence", new long[] {x.said(-2), x.said(-1), x.said(0)}, -1, -1, -1);
        Check.sentence(x, "leaf");
        Check.row("36: two", new long[] {x.said(-2), x.said(-1), x.said(0), x.said(1), x.said(2)},
                -1, 2, 2, 3, -1);
        Check.sentence(x, "leaf and not leaf");
        Check.row("36: of none", new long[] {x.said(-2), x.said(-1), x.said(0)}, -1, 0, -1);
        FinalLinks full = Check.withChain(Texts.blocks(20));
        Check.sentence(full, "number < 999");
        Check.row("36: of all", new long[] {full.said(-1), full.said(0), full.said(19),
            full.said(20)}, 20, 0, 19, -1);
        FinalLinks none = new FinalLinks();
        Check.sentence(none, "not leaf");
        Check.row("36: without blocks", new long[] {none.said(-1), none.said(0)}, 0, -1);
        Check.chain(none, "block r;");
        Check.row("36: a new chain has none", new long[] {none.said(-1), none.said(0)}, -1, -1);
    }

    /** "kept in place k (0, 1): true; false: no such one." */
    private static void imageEdges() {
        FinalLinks x = new FinalLinks();
        Check.row("37: places", new long[] {x.image(-1) ? 1 : 0, x.image(2) ? 1 : 0,
            x.image(1) ? 1 : 0, x.restore(0) ? 1 : 0, x.restore(1) ? 1 : 0}, 0, 0, 1, 0, 1);
        Check.chain(x, FORKED);
        Check.row("37: a chain without blocks is kept, too", new long[] {x.count(1),
            x.restore(1) ? 1 : 0, x.count(1), x.count(0)}, 4, 1, 0, 0);
        Check.chain(x, FORKED);
        x.votes(0, 0, 1);
        x.looks(0, 1);
        x.grows(1);
        Check.sentence(x, "leaf");
        long[] kept = Snapshot.of(x);
        Check.due("37: kept", x.image(0), true);
        Check.row("37: all is as it was", Snapshot.of(x), kept);
        Check.row("37: it can still be undone", new long[] {x.undo(), x.undo(), x.undo()},
                2, 1, 0);
        x.restore(0);
        Check.row("38: as kept", Snapshot.of(x), kept);
        x.votes(1, 0, 1);
        x.restore(0);
        Check.row("38: and again", Snapshot.of(x), kept);
        x.image(1);
        x.votes(1, 0, 1);
        x.image(0);
        x.restore(1);
        Check.row("38: each place has its own", Snapshot.of(x), kept);
        x.restore(0);
        Check.due("38: the later one", x.now(3), 2);
        // Other VOTES at the same places give way to those that were kept, seen at once.
        Check.chain(x, FORKED);
        x.votes(2, 1, 2);
        Check.row("38: another vote", new long[] {x.vote(0, 0), x.vote(0, 1), x.vote(0, 2),
            x.link(1, 2, 0), x.now(8)}, 2, 1, 2, 4, 2);
        x.restore(1);
        Check.row("38: the vote that was kept", new long[] {x.vote(0, 0), x.vote(0, 1),
            x.vote(0, 2), x.link(1, 2, 0), x.link(0, 1, 0)}, 0, 0, 1, 0, 1);
        Check.row("38: all that was kept", Snapshot.of(x), kept);
    }

    /** "(the tape, and what other calls told last, stays; nothing can be undone)" */
    private static void restoreEdges() {
        FinalLinks x = Check.withChain(FORKED);
        Check.row("38: no such one, nothing kept", new long[] {x.restore(-1) ? 1 : 0,
            x.restore(0) ? 1 : 0, x.restore(1) ? 1 : 0, x.restore(2) ? 1 : 0}, 0, 0, 0, 0);
        x.grows(0);
        x.restore(1);
        Check.row("38: refused, it can be undone", new long[] {x.count(1), x.undo()}, 5, 0);
        x.image(1);
        x.votes(0, 0, 1);
        x.need(0, 1);
        x.way(2);
        x.tag(0);
        Check.book(x, 1, "grow r;grow r;");
        Check.sentence(x, "number > 0");
        Check.sentence(x, "under z");
        Check.put(x, "block t;");
        Check.due("38: restored", x.restore(1), true);
        Check.row("38: told last", new long[] {x.fault(), x.needed(), x.wayFrom(), x.byteAt(0),
            x.byteAt(12), x.byteAt(13), x.told(0), x.told(1), x.told(2), x.told(3)},
                3, 2, 0, 'a', '1', -1, 0, 2, 1, 2);
        Check.row("38: no sentence was kept", new long[] {x.said(-1), x.said(0)}, -1, -1);
        Check.row("38: nothing can be undone", new long[] {x.undo(), x.count(1), x.now(3)},
                -1, 4, 0);
        Check.row("38: the tape", new long[] {x.count(4), x.chain(), x.count(1)}, 8, 1, 1);
    }

    /** "0 VOTERS, 1 BLOCKS, 2 'epoch', 3 POINTS, 4 bytes of the tape. NONE for another what." */
    private static void countEdges() {
        FinalLinks x = Check.withChain(TWO_LONG);
        Check.put(x, "abc");
        Check.row("39: all", new long[] {x.count(-1), x.count(0), x.count(1), x.count(2),
            x.count(3), x.count(4), x.count(5)}, -1, 2, 5, 2, 3, 3, -1);
        x.grows(4);
        Check.row("39: no point more", new long[] {x.count(1), x.count(3)}, 6, 3);
        x.grows(5);
        Check.row("39: a point more", new long[] {x.count(1), x.count(3)}, 7, 4);
        x.undo();
        Check.row("39: undone", new long[] {x.count(1), x.count(3)}, 6, 3);
    }

    /** What answers NONE, false or why not leaves all as it is, and nothing more to be undone. */
    private static void refusedCallsChangeNothing() {
        FinalLinks x = Check.withChain("voter a 1;voter b 1;" + Texts.blocks(19));
        x.votes(0, 0, 1);
        x.looks(0, 1);
        x.grows(1);
        x.need(0, 1);
        x.way(1);
        x.tag(0);
        Check.book(x, 0, "");
        Check.sentence(x, "leaf");
        Check.put(x, "on the tape");
        long[] before = Snapshot.of(x);
        x.end(-1);
        x.end(12);
        x.votes(0, 0, 1);
        x.votes(0, 1, 0);
        x.votes(0, 0, 20);
        x.votes(2, 0, 1);
        x.looks(0, 1);
        x.looks(0, 20);
        x.looks(-1, 1);
        x.grows(0);
        x.grows(20);
        x.offends(0, 0, 2);
        x.offends(0, 0, 1);
        x.need(1, 0);
        x.way(20);
        x.tag(1);
        x.drawn(0, 0);
        x.drawn(61, 0);
        x.odds(0, 0, 0);
        x.odds(0, 21, 0);
        x.odds(20, 1, 0);
        x.book(2);
        x.book(-1);
        x.image(2);
        x.restore(1);
        x.restore(2);
        Check.row("nothing has changed", Snapshot.of(x), before);
        Check.row("it can be undone as before", new long[] {x.undo(), x.undo(), x.undo(),
            x.undo()}, 2, 1, 0, -1);
    }

    /** Numbers far from all that there are: none of them wraps round to one that there is. */
    private static void farNumbers() {
        FinalLinks x = Check.withChain(FORKED);
        Check.sentence(x, "leaf");
        x.votes(0, 0, 1);
        x.votes(0, 0, 3);
        x.tag(0);
        Check.book(x, 0, "");
        Check.put(x, "block r;");
        long[] before = Snapshot.of(x);
        for (int n : FAR) {
            Check.throwing("6: block " + n, () -> x.block(n, 0));
            Check.throwing("6: what " + n, () -> x.block(0, n));
            Check.throwing("12: source " + n, () -> x.link(n, 1, 0));
            Check.throwing("12: target " + n, () -> x.link(0, n, 0));
            Check.throwing("12: what " + n, () -> x.link(0, 1, n));
            Check.throwing("27: what " + n, () -> x.guilt(n));
            Check.throwing("28: what " + n, () -> x.mean(n));
            long[] got = {x.ahead(n, 0), x.ahead(0, n), x.fork(n, 0), x.fork(0, n), x.weight(n, 0),
                x.weight(0, n), x.voter(n, 0), x.voter(0, n), x.vote(n, 0), x.vote(0, n),
                x.votes(n, 0, 1), x.votes(0, n, 1), x.votes(0, 0, n), x.looks(n, 0),
                x.looks(0, n), x.grows(n), x.offends(n, 0, 2), x.offends(0, n, 2),
                x.offends(0, 0, n), x.evidence(n, 0), x.evidence(0, n), x.now(n), x.chosen(n),
                x.need(n, 1), x.need(0, n), x.way(n), x.clashAt(n), x.tag(n), x.byteAt(n),
                x.odds(n, 1, 0), x.told(n), x.said(n), x.count(n)};
            for (int i = 0; i < got.length; i++) {
                Check.due("none of " + n + " [" + i + "]", got[i], -1);
            }
            Check.due("33: lives " + n, x.book(n), -1000);
            Check.row("false of " + n, new long[] {x.end(n) ? 1 : 0, x.image(n) ? 1 : 0,
                x.restore(n) ? 1 : 0}, 0, 0, 0);
            if (n < 0 || n > 60) {
                Check.due("31: n " + n, x.drawn(n, 0), -1);
            }
            if (n < 0 || n > 20) {
                Check.due("32: n " + n, x.odds(0, n, 0), -1);
            }
        }
        Check.row("nothing has changed", Snapshot.of(x), before);
    }
}
