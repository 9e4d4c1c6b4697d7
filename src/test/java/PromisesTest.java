/** The promises 1 to 39, each by answers that the document's words give. */
public final class PromisesTest {
    /** Blocks r 0, p 1 on r, q 2 on p, s 3 on r; voters a, b, c of weight 1. */
    private static final String FORKED =
            "voter a 1;voter b 1;voter c 1;block r;block p on r;block q on p;block s on r;";
    /** Points r 0, p 2, q 4; x 1 and y 3 are none. Weights change at r and p. */
    private static final String TWO_LONG = "epoch 2;voter a 2;voter b 1;block r change a 0;"
            + "block x on r;block p on x change b 9;block y on p;block q on y;";
    /** A way of five, r 0 to e 4; voters of weights 4, 3, 2, 1. */
    private static final String WAY = "voter a 4;voter b 3;voter c 2;voter d 1;"
            + "block r;block k on r;block l on k;block m on l;block n on m;";

    private PromisesTest() {
    }

    public static void main(String[] args) {
        newObject();
        feed();
        end();
        chain();
        fault();
        block();
        aheadAndFork();
        weight();
        voter();
        vote();
        link();
        votes();
        looks();
        grows();
        undo();
        offends();
        evidence();
        now();
        chosen();
        need();
        needAndOffenders();
        way();
        clash();
        guilt();
        mean();
        tag();
        drawn();
        odds();
        book();
        bookWrong();
        sentenceSaid();
        image();
        count();
        wildArguments();
        Check.finish("PromisesTest");
    }

    private static void newObject() {
        FinalLinks x = new FinalLinks();
        Check.row("1: counts", new long[] {x.count(0), x.count(1), x.count(2), x.count(3),
            x.count(4)}, 0, 0, 1, 0, 0);
        Check.row("1: now", new long[] {x.now(0), x.now(1), x.now(2), x.now(3), x.now(4), x.now(5),
            x.now(6), x.now(7), x.now(8)}, 0, 0, 0, 0, 0, 0, 0, -1, -1);
        Check.row("1: told last", new long[] {x.fault(), x.needed(), x.wayFrom(), x.byteAt(0),
            x.told(0), x.said(-1), x.undo()}, 0, -1, -1, -1, -1, -1, -1);
        Check.row("1: no book", new long[] {x.told(1), x.told(2), x.told(3)}, -1, -1, -1);
        Check.due("1: end", x.end(0), true);
        Check.due("1: restore", x.restore(0) || x.restore(1), false);
    }

    private static void feed() {
        FinalLinks x = new FinalLinks();
        // "block r;" and other bytes in the order highest first
        Check.due("2: feed",
                x.feed(0x626C6F63, 0x6B20723B, 0x20202020, 0x0A0A0A0A, 0x20202020), 20);
        Check.due("2: chain", x.chain(), 1);
        for (int i = 1; i <= 47; i++) {
            Check.due("2: feed " + i, x.feed(i, 0, 0, 0, -1), 20 * i);
        }
        Check.due("2: feed of too many", x.feed(1, 2, 3, 4, 5), -1);
        Check.due("2: none came", x.count(4), 940);
        Check.due("2: cut", x.end(921), true);
        Check.due("2: feed of one too many", x.feed(1, 2, 3, 4, 5), -1);
        Check.due("2: cut", x.end(920), true);
        Check.due("2: feed of just enough", x.feed(1, 2, 3, 4, 5), 940);
        Check.due("2: no token at once", x.chain(), -1);
        FinalLinks y = new FinalLinks();
        y.feed(0x20202020, 0x20202020, 0x20202020, 0x20202020, 0x2020FF20);
        Check.due("2: a byte above 127", y.chain(), -1 - 18);
    }

    private static void end() {
        FinalLinks x = new FinalLinks();
        Check.due("3: end of too many", x.end(1), false);
        Check.due("3: end below 0", x.end(-1), false);
        x.feed(0x626C6F63, 0x6B20723B, 0, 0, 0);
        Check.due("3: end 21", x.end(21), false);
        Check.due("3: all stays", x.count(4), 20);
        Check.due("3: end of all", x.end(20), true);
        Check.due("3: end 8", x.end(8), true);
        Check.due("3: 8 bytes", x.count(4), 8);
        Check.due("3: end 9", x.end(9), false);
        Check.due("3: end of the lowest", x.end(Integer.MIN_VALUE), false);
        Check.due("3: the first bytes stay", x.chain(), 1);
    }

    private static void chain() {
        FinalLinks x = new FinalLinks();
        Check.due("4: lines", Check.chain(x, FORKED), 7);
        Check.due("4: lines with an epoch", Check.chain(x, TWO_LONG), 8);
        Check.due("4: a chain without lines", Check.chain(x, ""), 0);
        Check.due("4: no blocks", x.count(1), 0);
        Check.chain(x, FORKED);
        x.votes(0, 0, 1);
        x.looks(1, 2);
        Check.sentence(x, "leaf");
        x.image(0);
        Check.due("4: a fault", Check.chain(x, "block"), -6);
        Check.row("4: it stays", new long[] {x.now(3), x.voter(1, 2), x.said(-1), x.count(4)},
                1, 2, 2, 0);
        Check.due("4: the same anew", Check.chain(x, FORKED), 7);
        Check.row("4: no votes, looks, sentence, undo", new long[] {x.now(3), x.voter(1, 2),
            x.said(-1), x.undo()}, 0, -1, -1, -1);
        Check.chain(x, "voter z 5;block r;block p on r;");
        Check.row("4: nothing of the old voters", new long[] {x.link(0, 1, 2), x.link(0, 1, 4),
            x.need(0, 1), x.guilt(0), x.weight(0, 1)}, 5, 5, 1, 0, -1);
        Check.due("4: images stay", x.restore(0), true);
        Check.row("4: image", new long[] {x.now(3), x.voter(1, 2), x.said(-1)}, 1, 2, 2);
    }

    private static void fault() {
        FinalLinks x = new FinalLinks();
        Check.chain(x, "voter a 10;");
        Check.due("5: of chain", x.fault(), 2);
        Check.due("5: another lives leaves it", x.book(7), -1000);
        Check.due("5: of chain still", x.fault(), 2);
        Check.book(x, 0, "grow z;");
        Check.due("5: of book", x.fault(), 3);
        Check.sentence(x, "leaf");
        Check.due("5: none of sentence", x.fault(), 0);
        Check.sentence(x, "!");
        Check.due("5: of sentence", x.fault(), 1);
        Check.book(x, 1, "");
        Check.due("5: none of book", x.fault(), 0);
        StringBuilder nine = new StringBuilder();
        for (char c = 'a'; c < 'j'; c++) {
            nine.append("voter ").append(c).append(" 1;");
        }
        Check.chain(x, nine.toString());
        Check.due("5: one voter too many", x.fault(), 4);
        Check.chain(x, "block r;");
        Check.due("5: none of chain", x.fault(), 0);
    }

    private static long[] blockRow(FinalLinks x, int b) {
        long[] row = new long[8];
        for (int what = 0; what < 8; what++) {
            row[what] = x.block(b, what);
        }
        return row;
    }

    private static void block() {
        FinalLinks x = Check.withChain(TWO_LONG);
        x.looks(1, 3);
        // The base is r, by which a has 0 and b has 1.
        Check.row("6: r", blockRow(x, 0), -1, 0, 0, 2, 0, 1, 1, 1);
        Check.row("6: x", blockRow(x, 1), 0, 1, -1, 4, -1, 0, 0, 1);
        Check.row("6: p", blockRow(x, 2), 1, 2, 1, 8, 1, 0, 0, 1);
        Check.row("6: y", blockRow(x, 3), 2, 3, -1, 16, -1, 0, 0, 1);
        Check.row("6: q", blockRow(x, 4), 3, 4, 2, 0, -1, 0, 0, 0);
        x.votes(0, 0, 2);
        x.votes(1, 0, 2);
        // p is the base now, by which b has 9; the link from r is of the next level.
        Check.row("6: r with p just", blockRow(x, 0), -1, 0, 0, 2, 0, 1, 1, 9);
        Check.row("6: p just", blockRow(x, 2), 1, 2, 1, 8, 1, 1, 0, 9);
        Check.throwing("6: no such block", () -> x.block(5, 0));
        Check.throwing("6: block -1", () -> x.block(-1, 0));
        Check.throwing("6: another what", () -> x.block(0, 8));
        Check.throwing("6: what -1", () -> x.block(0, -1));
        FinalLinks forked = Check.withChain(FORKED);
        Check.due("6: blocks on r", forked.block(0, 3), 2 | 8);
    }

    private static void aheadAndFork() {
        FinalLinks x = Check.withChain(FORKED);
        Check.row("7: ahead", new long[] {x.ahead(0, 1), x.ahead(0, 2), x.ahead(0, 3),
            x.ahead(1, 2), x.ahead(1, 0), x.ahead(2, 2), x.ahead(1, 3), x.ahead(3, 2)},
                1, 1, 1, 1, 0, 0, 0, 0);
        Check.row("7: no such ones", new long[] {x.ahead(4, 0), x.ahead(0, 4), x.ahead(-1, 0),
            x.ahead(0, -1)}, -1, -1, -1, -1);
        Check.row("8: fork", new long[] {x.fork(1, 3), x.fork(2, 3), x.fork(1, 2), x.fork(2, 1),
            x.fork(2, 2), x.fork(0, 3), x.fork(3, 3)}, 0, 0, 1, 1, 2, 0, 3);
        Check.row("8: no such ones", new long[] {x.fork(4, 0), x.fork(0, 4), x.fork(-1, 0),
            x.fork(0, -1)}, -1, -1, -1, -1);
        Check.row("7: none is ahead of itself", new long[] {x.ahead(0, 0), x.ahead(3, 3)}, 0, 0);
        x.grows(1);
        x.grows(4);
        Check.due("8: of grown ones", x.fork(5, 2), 1);
        Check.due("7: of grown ones", x.ahead(1, 5), 1);
    }

    private static void weight() {
        FinalLinks x = Check.withChain(TWO_LONG);
        Check.row("9: weights of a", new long[] {x.weight(0, 0), x.weight(2, 0), x.weight(4, 0)},
                0, 0, 0);
        Check.row("9: weights of b", new long[] {x.weight(0, 1), x.weight(2, 1), x.weight(4, 1)},
                1, 9, 9);
        Check.row("9: no points", new long[] {x.weight(1, 0), x.weight(3, 1)}, -1, -1);
        Check.row("9: no such ones", new long[] {x.weight(5, 0), x.weight(-1, 0), x.weight(0, 2),
            x.weight(0, -1)}, -1, -1, -1, -1);
        // Changes of blocks that are no points, on the way, one over the other; a late voter.
        FinalLinks y = Check.withChain("epoch 2;voter a 1;block r;block s on r change a 2;"
                + "block t on s;block u on r change a 5;block v on u change a 3;voter b 4;");
        Check.row("9: on two ways", new long[] {y.weight(0, 0), y.weight(2, 0), y.weight(4, 0)},
                1, 2, 3);
        Check.row("9: told late", new long[] {y.weight(0, 1), y.weight(2, 1), y.weight(4, 1)},
                4, 4, 4);
        y.grows(4);
        y.grows(5);
        Check.row("9: by a grown point", new long[] {y.weight(5, 0), y.weight(6, 0)}, -1, 3);
    }

    private static void voter() {
        FinalLinks x = Check.withChain(TWO_LONG);
        Check.row("10: a", new long[] {x.voter(0, 0), x.voter(0, 1), x.voter(0, 2), x.voter(0, 3)},
                2, 0, -1, 0);
        x.votes(0, 0, 4);
        x.votes(1, 0, 2);
        x.votes(0, 0, 2);
        x.looks(0, 3);
        Check.row("10: a later", new long[] {x.voter(0, 1), x.voter(0, 2), x.voter(0, 3)}, 2, 3, 0);
        x.votes(0, 2, 4);
        Check.row("10: an offender", new long[] {x.voter(0, 3), x.voter(1, 3)}, 1, 0);
        Check.row("10: no such ones", new long[] {x.voter(2, 0), x.voter(-1, 0), x.voter(0, 4),
            x.voter(0, -1)}, -1, -1, -1, -1);
    }

    private static void vote() {
        FinalLinks x = Check.withChain(FORKED);
        Check.due("11: none yet", x.vote(0, 0), -1);
        x.votes(2, 0, 3);
        x.votes(1, 1, 2);
        Check.row("11: both", new long[] {x.vote(0, 0), x.vote(0, 1), x.vote(0, 2), x.vote(1, 0),
            x.vote(1, 1), x.vote(1, 2)}, 2, 0, 3, 1, 1, 2);
        Check.row("11: no such ones", new long[] {x.vote(2, 0), x.vote(-1, 0), x.vote(0, 3),
            x.vote(0, -1)}, -1, -1, -1, -1);
    }

    private static long[] linkRow(FinalLinks x, int s, int t) {
        long[] row = new long[6];
        for (int what = 0; what < 6; what++) {
            row[what] = x.link(s, t, what);
        }
        return row;
    }

    private static void link() {
        FinalLinks x = Check.withChain(TWO_LONG);
        // To p: fore by r (0 and 1), rear as told (2 and 1). To q: fore by p (0 and 9), rear by r.
        Check.row("12: r to p", linkRow(x, 0, 2), 0, 0, 1, 0, 3, 0);
        Check.row("12: r to q", linkRow(x, 0, 4), 0, 0, 9, 0, 1, 0);
        x.votes(1, 0, 2);
        Check.row("12: r to p with b", linkRow(x, 0, 2), 2, 1, 1, 1, 3, 0);
        x.votes(0, 0, 2);
        Check.row("12: r to p with both", linkRow(x, 0, 2), 3, 1, 1, 3, 3, 1);
        x.votes(1, 2, 4);
        Check.row("12: p to q with b", linkRow(x, 2, 4), 2, 9, 9, 1, 1, 1);
        Check.throwing("12: no point", () -> x.link(1, 2, 0));
        Check.throwing("12: to no point", () -> x.link(0, 3, 0));
        Check.throwing("12: not ahead", () -> x.link(2, 0, 0));
        Check.throwing("12: to itself", () -> x.link(2, 2, 0));
        Check.throwing("12: no such source", () -> x.link(-1, 2, 0));
        Check.throwing("12: no such target", () -> x.link(0, 5, 0));
        Check.throwing("12: another what", () -> x.link(0, 2, 6));
        Check.throwing("12: what -1", () -> x.link(0, 2, -1));
        // Just two thirds are enough; less are not; no weights are not.
        FinalLinks y = Check.withChain("voter a 4;voter b 2;voter c 0;block r;block p on r;"
                + "block z on r change a 0;block u on z change b 0;block o on u;block e on o;");
        y.votes(0, 0, 1);
        Check.due("12: 4 of 6", y.link(0, 1, 5), 1);
        FinalLinks w = Check.withChain("voter a 5;voter b 3;block r;block p on r;");
        w.votes(0, 0, 1);
        Check.due("12: 5 of 8", w.link(0, 1, 5), 0);
        y.votes(2, 0, 5);
        y.votes(0, 0, 5);
        y.votes(1, 0, 5);
        Check.row("12: all weights are 0", linkRow(y, 0, 5), 7, 0, 0, 0, 0, 0);
    }

    private static void votes() {
        FinalLinks x = Check.withChain(TWO_LONG);
        Check.due("13: from no point", x.votes(0, 1, 2), 1);
        Check.due("13: to no point", x.votes(0, 0, 3), 1);
        Check.due("13: no point, not ahead", x.votes(0, 3, 1), 1);
        Check.due("13: not ahead", x.votes(0, 2, 0), 2);
        Check.due("13: to itself", x.votes(0, 2, 2), 2);
        Check.due("13: done", x.votes(0, 0, 2), 0);
        Check.due("13: again", x.votes(0, 0, 2), 3);
        Check.due("13: by another", x.votes(1, 0, 2), 0);
        Check.row("13: no such ones", new long[] {x.votes(2, 0, 2), x.votes(-1, 0, 2),
            x.votes(0, -1, 2), x.votes(0, 0, 5)}, -1, -1, -1, -1);
        Check.due("13: two", x.now(3), 2);
        FinalLinks y = Check.withChain(WAY);
        for (int i = 0; i < 8; i++) {
            y.grows(y.count(1) - 1);
        }
        int done = 0;
        for (int t = 1; t < 13; t++) {
            for (int v = 0; v < 4; v++) {
                done += y.votes(v, 0, t) == 0 ? 1 : 0;
            }
        }
        Check.due("13: 48", done, 48);
        Check.due("13: a 49th", y.votes(0, 1, 2), 4);
        Check.due("13: such a one at 48", y.votes(0, 0, 2), 3);
        Check.due("13: none ahead at 48", y.votes(0, 2, 1), 2);
        Check.due("13: 48 stay", y.now(3), 48);
    }

    private static void looks() {
        FinalLinks x = Check.withChain(FORKED);
        Check.row("14: looks", new long[] {x.looks(0, 2), x.looks(0, 2), x.looks(0, 1),
            x.looks(0, 2), x.looks(1, 2)}, 0, 1, 0, 0, 0);
        Check.row("14: they are", new long[] {x.voter(0, 2), x.voter(1, 2), x.voter(2, 2)},
                2, 2, -1);
        Check.row("14: no such ones", new long[] {x.looks(3, 0), x.looks(-1, 0), x.looks(0, 4),
            x.looks(0, -1)}, -1, -1, -1, -1);
    }

    private static void grows() {
        FinalLinks x = Check.withChain(TWO_LONG);
        Check.due("15: grows", x.grows(3), 0);
        Check.row("15: it is", blockRow(x, 5), 3, 4, 2, 0, -1, 0, 0, 0);
        Check.row("15: no such ones", new long[] {x.grows(6), x.grows(-1)}, -1, -1);
        for (int i = 6; i < 20; i++) {
            Check.due("15: grows to " + i, x.grows(0), 0);
        }
        Check.due("15: there are 20", x.grows(0), 1);
        Check.due("15: 20", x.count(1), 20);
        Check.due("15: none on an empty chain", new FinalLinks().grows(0), -1);
    }

    private static void undo() {
        FinalLinks x = Check.withChain(FORKED);
        x.votes(0, 0, 1);
        x.looks(0, 3);
        x.looks(0, 2);
        x.grows(2);
        x.votes(0, 0, 1);
        x.looks(0, 2);
        Check.due("16: of growing", x.undo(), 3);
        Check.due("16: not grown", x.count(1), 4);
        Check.due("16: of looking", x.undo(), 2);
        Check.due("16: looks as before", x.voter(0, 2), 3);
        Check.due("16: of looking first", x.undo(), 1);
        Check.due("16: looks nowhere", x.voter(0, 2), -1);
        Check.due("16: of voting", x.undo(), 0);
        Check.due("16: no votes", x.now(3), 0);
        Check.due("16: none", x.undo(), -1);
        for (int i = 0; i < 12; i++) {
            x.looks(0, i % 4);
        }
        for (int left = 7; left >= 0; left--) {
            Check.due("16: of eight", x.undo(), left);
        }
        Check.due("16: eight at most", x.undo(), -1);
        Check.due("16: the fourth look stays", x.voter(0, 2), 3);
        int done = x.drawn(30, 5);
        Check.due("16: drawn", done > 0, true);
        Check.sentence(x, "leaf");
        Check.due("16: of drawn", x.undo(), 0);
        Check.row("16: as before", new long[] {x.now(3), x.count(1), x.voter(0, 2), x.voter(1, 2),
            x.said(-1)}, 0, 4, 3, -1, 2);
        Check.book(x, 1, "grow r;vote a r p;look b q;vote a p r;");
        Check.row("16: a book", new long[] {x.now(3), x.count(1), x.voter(1, 2)}, 1, 5, 2);
        Check.book(x, 1, "vote a p r;");
        Check.book(x, 0, "grow r;");
        Check.due("16: of a book", x.undo(), 0);
        Check.row("16: no book", new long[] {x.now(3), x.count(1), x.voter(1, 2)}, 0, 4, -1);
        x.votes(0, 0, 1);
        Check.chain(x, "block");
        Check.due("16: behind a fault", x.undo(), 0);
        Check.book(x, 1, "grow r;");
        Check.due("16: a book of one line", x.undo(), 0);
        manyActs();
    }

    /** The places of acts that are undone are used again, in whatever order they come. */
    private static void manyActs() {
        FinalLinks x = Check.withChain(WAY);
        for (int i = 0; i < 15; i++) {
            x.grows(i);
        }
        for (int b = 0; b < 20; b++) {
            x.looks(0, b);
        }
        for (int i = 0; i < 5; i++) {
            Check.due("16: undone", x.undo(), 7 - i);
            Check.due("16: the look before", x.voter(0, 2), 18 - i);
        }
        for (int b = 0; b < 7; b++) {
            x.looks(1, b);
        }
        for (int i = 0; i < 7; i++) {
            Check.due("16: undone again", x.undo(), 7 - i);
            Check.row("16: both looks", new long[] {x.voter(0, 2), x.voter(1, 2)}, 14, 5 - i);
        }
        Check.due("16: the oldest", x.undo(), 0);
        Check.row("16: at last", new long[] {x.voter(0, 2), x.undo()}, 13, -1);
    }

    private static void offends() {
        FinalLinks x = Check.withChain(FORKED + "block t on q;");
        x.votes(0, 1, 2);
        Check.due("17: one level", x.offends(0, 0, 2), 1);
        Check.due("17: round the other", x.offends(0, 0, 4), 2);
        Check.due("17: behind the other", x.offends(0, 2, 4), 0);
        Check.due("17: from one source", x.offends(0, 1, 4), 0);
        Check.due("17: ahead of the other", x.offends(0, 0, 1), 0);
        Check.due("17: another voter", x.offends(1, 0, 4), 0);
        x.votes(0, 0, 4);
        Check.due("17: the least of both", x.offends(0, 2, 4), 1);
        x.votes(1, 0, 4);
        Check.due("17: within the other", x.offends(1, 1, 2), 2);
        Check.due("17: shorter from one source", x.offends(1, 0, 2), 0);
        Check.row("17: no such ones", new long[] {x.offends(3, 0, 1), x.offends(-1, 0, 1),
            x.offends(0, -1, 1), x.offends(0, 0, 5)}, -1, -1, -1, -1);
        Check.row("17: it can not be", new long[] {x.offends(0, 1, 2), x.offends(0, 2, 1),
            x.offends(0, 1, 1), x.offends(0, 1, 3)}, -1, -1, -1, -1);
        FinalLinks y = Check.withChain(TWO_LONG);
        Check.row("17: no points", new long[] {y.offends(0, 1, 4), y.offends(0, 0, 3)}, -1, -1);
    }

    private static void evidence() {
        FinalLinks x = Check.withChain(FORKED + "block t on q;");
        Check.due("18: none", x.evidence(0, 0), -1);
        x.votes(0, 0, 4); // 0
        x.votes(1, 0, 4); // 1
        x.votes(0, 1, 2); // 2: within 0
        x.votes(1, 0, 1); // 3
        x.votes(1, 0, 3); // 4: the level of 3
        x.votes(0, 0, 2); // 5: the level of 2; like sources, so not within 0
        Check.due("18: three", x.now(6), 3);
        Check.row("18: first", new long[] {x.evidence(0, 0), x.evidence(0, 1), x.evidence(0, 2)},
                0, 2, 2);
        Check.row("18: second", new long[] {x.evidence(1, 0), x.evidence(1, 1), x.evidence(1, 2)},
                2, 5, 1);
        Check.row("18: third", new long[] {x.evidence(2, 0), x.evidence(2, 1), x.evidence(2, 2)},
                3, 4, 1);
        Check.row("18: no such ones", new long[] {x.evidence(3, 0), x.evidence(-1, 0),
            x.evidence(0, 3), x.evidence(0, -1)}, -1, -1, -1, -1);
    }

    private static long[] nowRow(FinalLinks x) {
        long[] row = new long[9];
        for (int what = 0; what < 9; what++) {
            row[what] = x.now(what);
        }
        return row;
    }

    private static void now() {
        FinalLinks x = Check.withChain(FORKED);
        Check.row("19: at first", nowRow(x), 1, 1, 0, 0, 0, 0, 0, 0, 2);
        x.votes(0, 1, 2);
        x.votes(1, 1, 2);
        Check.row("19: counts, but its source is not just", nowRow(x), 1, 1, 0, 2, 1, 1, 0, 0, 2);
        x.votes(2, 0, 1);
        x.votes(1, 0, 1);
        Check.row("19: just by two links", nowRow(x), 7, 3, 0, 4, 2, 2, 0, 2, 2);
        x.votes(2, 0, 3);
        x.votes(0, 0, 3);
        Check.row("19: another just one", nowRow(x), 15, 3, 4, 6, 3, 3, 1, 2, 2);
        Check.row("19: another what", new long[] {x.now(9), x.now(-1)}, -1, -1);
        // A link over two levels makes its target just, not its source final.
        FinalLinks y = Check.withChain("voter a 1;block r;block p on r;block q on p;");
        y.votes(0, 0, 2);
        Check.row("19: over two levels", nowRow(y), 5, 1, 0, 1, 1, 1, 0, 2, 2);
        // Of two just points of one level the least is the base.
        FinalLinks z = Check.withChain("voter a 1;block r;block p on r;block q on r;");
        z.votes(0, 0, 2);
        Check.due("19: base q", z.now(7), 2);
        z.votes(0, 0, 1);
        Check.row("19: base p", nowRow(z), 7, 1, 1, 2, 2, 2, 1, 1, 1);
        // Every change is seen at once.
        z.grows(1);
        Check.due("19: grown", z.now(8), 3);
        z.image(0);
        Check.chain(z, "voter a 1;block r;");
        Check.row("19: a new chain", nowRow(z), 1, 1, 0, 0, 0, 0, 0, 0, 0);
        z.restore(0);
        Check.row("19: restored", nowRow(z), 7, 1, 1, 2, 2, 2, 1, 1, 3);
        z.undo();
        z.votes(0, 1, 3);
        Check.due("19: final", z.now(1), 3);
        z.undo();
        Check.due("19: final no more", z.now(1), 1);
    }

    private static long[] chosenRow(FinalLinks x, int most) {
        long[] row = new long[most];
        for (int k = 0; k < most; k++) {
            row[k] = x.chosen(k);
        }
        return row;
    }

    private static void chosen() {
        FinalLinks x = Check.withChain(FORKED + "block t on s;block u on s;");
        Check.row("20: of like ones the least", chosenRow(x, 4), 0, 1, 2, -1);
        x.looks(0, 5);
        Check.row("20: the one that is looked at", chosenRow(x, 4), 0, 3, 5, -1);
        x.looks(1, 1);
        Check.row("20: like hefts", chosenRow(x, 4), 0, 1, 2, -1);
        x.looks(2, 3);
        Check.row("20: the most", chosenRow(x, 4), 0, 3, 5, -1);
        Check.row("20: hefts", new long[] {x.block(0, 7), x.block(1, 7), x.block(3, 7),
            x.block(4, 7), x.block(5, 7)}, 3, 1, 2, 0, 1);
        x.votes(2, 0, 1);
        x.votes(2, 0, 3);
        Check.row("20: not by offenders", chosenRow(x, 4), 0, 1, 2, -1);
        x.votes(0, 0, 3);
        Check.row("20: from the base on", chosenRow(x, 3), 3, 5, -1);
        Check.due("20: -1", x.chosen(-1), -1);
        Check.due("20: no blocks", new FinalLinks().chosen(0), -1);
    }

    private static void need() {
        FinalLinks x = Check.withChain(WAY);
        // Of 10 at least 7 are needed: a and b.
        Check.row("21: none yet", new long[] {x.need(0, 1), x.needed()}, 2, 3);
        x.votes(2, 0, 1);
        Check.row("21: c has it", new long[] {x.need(0, 1), x.needed()}, 2, 3);
        x.votes(3, 0, 1);
        Check.row("21: c, d have it", new long[] {x.need(0, 1), x.needed()}, 1, 1);
        x.votes(0, 0, 1);
        Check.row("21: it counts", new long[] {x.need(0, 1), x.needed()}, 0, 0);
        Check.row("22: back to another one", new long[] {x.need(1, 2), x.needed()}, 2, 3);
        Check.row("21: no such ones", new long[] {x.need(1, 0), x.need(1, 1), x.need(5, 1),
            x.need(0, 5), x.need(-1, 1), x.needed()}, -1, -1, -1, -1, -1, 3);
        Check.row("22: not by way()", new long[] {x.way(1), x.needed()}, 0, 3);
        // Of 12 at least 8: of the sets of two b and d, not c and d, of more bits.
        FinalLinks y = Check.withChain("voter a 1;voter b 3;voter c 3;voter d 5;voter e 0;"
                + "block r;block p on r;");
        Check.row("21: least by bits", new long[] {y.need(0, 1), y.needed()}, 2, 8 | 2);
        FinalLinks eight = Check.withChain("voter a 0;voter b 0;voter c 1;voter d 1;voter e 1;"
                + "voter f 1;voter g 1;voter h 9;block r;block p on r;");
        Check.row("21: of eight", new long[] {eight.need(0, 1), eight.needed()}, 2, 128 | 4);
        FinalLinks z = Check.withChain("voter a 0;block r;block p on r;");
        Check.row("21: no weights", new long[] {z.need(0, 1), z.needed()}, -1, -1);
        FinalLinks w = Check.withChain(TWO_LONG);
        Check.row("21: by both sets", new long[] {w.need(0, 2), w.needed(), w.need(0, 4),
            w.needed(), w.need(0, 3), w.needed()}, 2, 3, 1, 2, -1, 2);
    }

    private static void needAndOffenders() {
        FinalLinks x = Check.withChain(FORKED + "block t on q;");
        x.votes(0, 0, 1);
        Check.row("21: not who would offend", new long[] {x.need(0, 3), x.needed()}, 2, 6);
        x.votes(0, 0, 3);
        Check.row("21: not offenders", new long[] {x.need(0, 4), x.needed()}, 2, 6);
        Check.row("21: votes of offenders count", new long[] {x.need(0, 1), x.needed()}, 1, 2);
        x.votes(1, 1, 2);
        Check.row("21: not round another", new long[] {x.need(0, 4), x.needed()}, -1, 2);
    }

    private static void way() {
        FinalLinks x = Check.withChain(WAY);
        Check.row("23: the root", new long[] {x.way(0), x.wayFrom()}, 0, -1);
        Check.row("23: from the root", new long[] {x.way(2), x.wayFrom()}, 2, 0);
        x.votes(0, 0, 1);
        x.votes(1, 0, 1);
        Check.row("23: like ones", new long[] {x.way(2), x.wayFrom()}, 2, 0);
        x.votes(2, 1, 2);
        x.votes(1, 1, 2);
        Check.row("23: the least need", new long[] {x.way(2), x.wayFrom()}, 1, 1);
        Check.row("24: by the latest that was not NONE", new long[] {x.way(5), x.way(-1),
            x.wayFrom()}, -1, -1, 1);
        Check.row("24: just", new long[] {x.way(1), x.wayFrom()}, 0, -1);
        // Not from p, which is not just; a is an offender, so there are not enough.
        FinalLinks y = Check.withChain("voter a 3;voter b 1;block r;block p on r;block q on r;"
                + "block t on p;");
        y.votes(0, 1, 3);
        Check.row("23: not from a point that is not just", new long[] {y.way(3), y.wayFrom()},
                -1, -1);
        y.votes(0, 0, 3);
        Check.row("23: just by an offender", new long[] {y.way(3), y.way(2)}, 0, -1);
        FinalLinks z = Check.withChain(TWO_LONG);
        Check.row("23: no points", new long[] {z.way(1), z.way(3), z.wayFrom()}, -1, -1, -1);
    }

    private static void clash() {
        FinalLinks x = Check.withChain(FORKED + "block t on s;block u on q;");
        Check.row("25: none", new long[] {x.clash(), x.clashAt(0), x.clashAt(1)}, 0, -1, -1);
        for (int v = 0; v < 2; v++) {
            x.votes(v, 0, 1);
            x.votes(v, 1, 2);
            x.votes(v, 2, 5);
        }
        Check.due("25: r, p, q are final", x.now(1), 7);
        Check.due("25: on one way", x.clash(), 0);
        for (int v = 1; v < 3; v++) {
            x.votes(v, 0, 3);
            x.votes(v, 3, 4);
        }
        Check.due("25: at once", x.clash(), 1);
        x.undo();
        Check.due("26: at once", x.clashAt(0), -1);
        x.votes(2, 3, 4);
        Check.due("26: at once again", x.clashAt(0), 1);
        Check.due("25: s, too", x.now(1), 15);
        Check.row("26: the least ones", new long[] {x.clash(), x.clashAt(0), x.clashAt(1)},
                1, 1, 3);
        Check.row("26: another k", new long[] {x.clashAt(2), x.clashAt(-1)}, -1, -1);
        Check.row("27: a third is guilty", new long[] {x.guilt(0), x.guilt(1)}, 1, 3);
    }

    private static void guilt() {
        FinalLinks x = Check.withChain("voter a 4;voter b 6;voter c 2;block r change a 9;"
                + "block p on r;block q on r;");
        Check.row("27: none", new long[] {x.guilt(0), x.guilt(1)}, 0, 1);
        x.votes(0, 0, 1);
        x.votes(0, 0, 2);
        Check.row("27: by weights as told", new long[] {x.guilt(0), x.guilt(1)}, 1, 3);
        x.votes(1, 0, 1);
        x.votes(1, 0, 2);
        Check.row("27: of two", new long[] {x.guilt(0), x.guilt(1)}, 5, 6);
        x.votes(2, 0, 1);
        x.votes(2, 0, 2);
        Check.row("27: of all", new long[] {x.guilt(0), x.guilt(1)}, 1, 1);
        Check.throwing("27: another what", () -> x.guilt(2));
        Check.throwing("27: what -1", () -> x.guilt(-1));
        FinalLinks y = Check.withChain("voter a 0;block r change a 5;");
        Check.throwing("27: all weights are 0", () -> y.guilt(0));
        Check.throwing("27: no voters", () -> new FinalLinks().guilt(1));
        FinalLinks z = Check.withChain("voter a 1;");
        Check.row("27: no blocks", new long[] {z.guilt(0), z.guilt(1)}, 0, 1);
    }

    private static void mean() {
        FinalLinks x = Check.withChain(FORKED);
        Check.row("28: 2 and 1", new long[] {x.mean(0), x.mean(1)}, 3, 2);
        x.grows(3);
        Check.row("28: 2 and 2", new long[] {x.mean(0), x.mean(1)}, 2, 1);
        x.grows(0);
        Check.row("28: 2, 2 and 1", new long[] {x.mean(0), x.mean(1)}, 5, 3);
        FinalLinks y = Check.withChain("block r;");
        Check.row("28: the root alone", new long[] {y.mean(0), y.mean(1)}, 0, 1);
        Check.throwing("28: another what", () -> y.mean(2));
        Check.throwing("28: what -1", () -> y.mean(-1));
        Check.throwing("28: no blocks", () -> new FinalLinks().mean(0));
    }

    private static String tagOf(FinalLinks x, int most) {
        StringBuilder s = new StringBuilder();
        for (int i = 0; i < most && x.byteAt(i) >= 0; i++) {
            s.append((char) x.byteAt(i));
        }
        return s.toString();
    }

    private static void tag() {
        FinalLinks x = Check.withChain("voter a 1;voter zebra 1;voter abcdefg 2;block r;");
        for (int i = 0; i < 19; i++) {
            x.grows(i);
        }
        x.votes(1, 0, 9);
        x.votes(2, 10, 19);
        x.votes(0, 2, 11);
        Check.due("29: length", x.tag(0), 17);
        Check.due("30: bytes", tagOf(x, 99).equals("zebra from 0 to 9"), true);
        Check.due("29: no such one", x.tag(3), -1);
        Check.due("29: -1", x.tag(-1), -1);
        Check.due("30: the latest stays", tagOf(x, 99).equals("zebra from 0 to 9"), true);
        Check.due("29: the longest", x.tag(1), 21);
        Check.due("30: bytes", tagOf(x, 99).equals("abcdefg from 10 to 19"), true);
        Check.due("29: the third", x.tag(2), 14);
        Check.due("30: bytes", tagOf(x, 99).equals("a from 2 to 11"), true);
        Check.row("30: none such", new long[] {x.byteAt(14), x.byteAt(-1), x.byteAt(99),
            x.byteAt(Integer.MAX_VALUE)}, -1, -1, -1, -1);
        Check.chain(x, "");
        Check.due("30: a new chain leaves it", x.byteAt(0), 'a');
    }

    private static void drawn() {
        FinalLinks x = new FinalLinks();
        Check.row("31: not as told", new long[] {x.drawn(0, 1), x.drawn(61, 1), x.drawn(-1, 1)},
                -1, -1, -1);
        Check.due("31: no blocks", x.drawn(60, 1), 0);
        Check.due("31: nothing to undo", x.undo(), -1);
        // Without voters only growing is left; each deed is two draws.
        Check.chain(x, "block r;");
        int seed = 3;
        int due = 0;
        int blocks = 1;
        int[] on = new int[20];
        for (int i = 0; i < 60; i++) {
            seed = seed * 1103515245 + 12345;
            boolean grows = (seed >>> 8) % 8 == 0;
            seed = seed * 1103515245 + 12345;
            if (grows && blocks < 20) {
                on[blocks] = (seed >>> 8) % blocks;
                blocks++;
                due++;
            }
        }
        Check.due("31: grown", x.drawn(60, 3), due);
        Check.due("31: so many blocks", x.count(1), 1 + due);
        for (int b = 1; b < blocks; b++) {
            Check.due("31: on which " + b + " is", x.block(b, 0), on[b]);
        }
        // Done by hand: seed 0 draws 12345 >>> 8 = 48, 48 % 8 = 0: it grows.
        FinalLinks y = Check.withChain("voter a 1;block r;");
        Check.due("31: one deed", y.drawn(1, 0), 1);
        Check.due("31: it grew", y.count(1), 2);
        Check.due("31: as one act", y.undo(), 0);
        Check.due("31: undone", y.count(1), 1);
        for (int i = 0; i < 40; i++) {
            drawnOneByOne(i * 7919 - 9);
        }
    }

    /** The same deeds, drawn here and done by the calls for one each. */
    private static void drawnOneByOne(int seed) {
        FinalLinks x = Check.withChain(FORKED);
        FinalLinks y = Check.withChain(FORKED);
        int s = seed;
        int due = 0;
        for (int i = 0; i < 60; i++) {
            s = s * 1103515245 + 12345;
            int sort = (s >>> 8) % 8;
            s = s * 1103515245 + 12345;
            int b = (s >>> 8) % y.count(1);
            int why;
            if (sort == 0) {
                why = y.grows(b);
            } else {
                s = s * 1103515245 + 12345;
                int v = (s >>> 8) % 3;
                if (sort < 3) {
                    why = y.looks(v, b);
                } else {
                    s = s * 1103515245 + 12345;
                    why = y.votes(v, b, (s >>> 8) % y.count(1));
                }
            }
            due += why == 0 ? 1 : 0;
        }
        Check.due("31: drawn by " + seed, x.drawn(60, seed), due);
        Check.row("31: now by " + seed, nowRow(x), nowRow(y));
        for (int v = 0; v < 3; v++) {
            Check.due("31: look of " + v, x.voter(v, 2), y.voter(v, 2));
        }
    }

    private static void odds() {
        FinalLinks x = Check.withChain(FORKED);
        x.votes(0, 0, 1);
        x.looks(1, 3);
        for (int b = 0; b < 4; b++) {
            for (int seed = -2; seed < 60; seed += 7) {
                int due = 0;
                for (int i = 0; i < 20; i++) {
                    x.image(0);
                    x.drawn(12, seed + i);
                    for (int k = 0; k < 20; k++) {
                        due += x.chosen(k) == b ? 1 : 0;
                    }
                    x.restore(0);
                }
                Check.due("32: odds of " + b, x.odds(b, 20, seed), due);
            }
        }
        x.grows(0);
        x.odds(0, 20, 9);
        Check.row("32: all stays", new long[] {x.now(3), x.count(1), x.voter(1, 2), x.undo()},
                1, 5, 3, 0);
        Check.row("32: no such ones", new long[] {x.odds(4, 1, 1), x.odds(-1, 1, 1),
            x.odds(0, 0, 1), x.odds(0, 21, 1), x.odds(0, -1, 1)}, -1, -1, -1, -1, -1);
        FinalLinks y = Check.withChain("block r;");
        Check.due("32: the root alone", y.odds(0, 20, Integer.MAX_VALUE), 20);
        Check.due("32: one seed", y.odds(0, 1, 5), 1);
    }

    private static void book() {
        FinalLinks x = Check.withChain(FORKED);
        String good = "vote a r p;vote b r p;\nlook c s;grow s;vote a p q;vote c p q;";
        Check.due("33: judged", Check.book(x, 0, good), -1);
        // p is final then; the base is q, on which nothing is.
        Check.row("34: told", new long[] {x.told(0), x.told(1), x.told(2), x.told(3)}, 0, 6, 3, 2);
        Check.row("33: all stays", new long[] {x.now(3), x.count(1), x.voter(2, 2), x.now(1),
            x.undo()}, 0, 4, -1, 1, -1);
        Check.due("33: lived", Check.book(x, 1, good), -1);
        Check.row("34: told", new long[] {x.told(0), x.told(1), x.told(2), x.told(3)}, 0, 6, 3, 2);
        Check.row("33: all is so", new long[] {x.now(3), x.count(1), x.voter(2, 2), x.now(1),
            x.vote(3, 0), x.vote(3, 1), x.vote(3, 2)}, 4, 5, 3, 3, 2, 1, 2);
        Check.due("34: another what", x.told(4), -1);
        Check.due("34: what -1", x.told(-1), -1);
        Check.put(x, "grow r;");
        Check.row("33: another lives", new long[] {x.book(2), x.book(-1), x.count(4)},
                -1000, -1000, 7);
        Check.due("34: as before", x.told(1), 6);
        Check.due("33: the tape was still there", x.book(1), -1);
        Check.due("34: one line", x.told(1), 1);
        Check.due("33: a fault", Check.book(x, 1, "grow p;grow z;"), -2 - 12);
        Check.row("34: a fault leaves it", new long[] {x.told(0), x.told(1)}, 0, 1);
        Check.due("33: none was lived", x.count(1), 6);
    }

    private static void bookWrong() {
        FinalLinks x = Check.withChain(TWO_LONG);
        String[] books = {"look a r;vote a x q;", "look a r;vote a q r;",
            "look a r;vote a r p;vote a r p;", "look b y;look b y;grow r;", "grow r;look a z;"};
        long[][] due = {{1, 1, 1}, {1, 2, 1}, {2, 3, 2}, {1, 11, 1}};
        for (int i = 0; i < due.length; i++) {
            Check.due("33: " + books[i], Check.book(x, 0, books[i]), due[i][0]);
            Check.row("34: " + books[i], new long[] {x.told(0), x.told(1), x.told(2), x.told(3)},
                    due[i][1], due[i][2], 1, 4);
        }
        Check.due("33: " + books[4], Check.book(x, 0, books[4]), -2 - 14);
        StringBuilder growing = new StringBuilder();
        for (int i = 0; i < 17; i++) {
            growing.append("grow x;");
        }
        Check.due("33: 20 blocks", Check.book(x, 1, growing.toString()), 15);
        Check.row("34: 20 blocks", new long[] {x.told(0), x.told(1), x.count(1)}, 21, 15, 20);
        Check.due("33: one act", x.undo(), 0);
        Check.due("33: undone", x.count(1), 5);
        FinalLinks y = Check.withChain(WAY);
        Check.book(y, 1, "grow n;");
        for (int i = 5; i < 12; i++) {
            y.grows(i);
        }
        for (int i = 0; i < 48; i++) {
            y.votes(i % 4, 0, 1 + i / 4);
        }
        Check.due("33: 48 votes", Check.book(y, 1, "look a k;vote a k l;look a l;"), 1);
        Check.row("34: 48 votes", new long[] {y.told(0), y.told(1), y.voter(0, 2)}, 4, 1, 1);
    }

    private static void said(FinalLinks x, String sentence, long... blocks) {
        Check.due("35: " + sentence, Check.sentence(x, sentence) > 0, true);
        Check.due("36: how many: " + sentence, x.said(-1), blocks.length);
        for (int k = 0; k < blocks.length; k++) {
            Check.due("36: " + k + " of " + sentence, x.said(k), blocks[k]);
        }
        Check.due("36: none such: " + sentence, x.said(blocks.length), -1);
        Check.due("36: -2: " + sentence, x.said(-2), -1);
    }

    private static void sentenceSaid() {
        FinalLinks x = Check.withChain(TWO_LONG);
        Check.due("36: no sentence", x.said(-1), -1);
        Check.due("35: ones", Check.sentence(x, "not ( leaf or point ) and number > 1"), 5);
        Check.row("36: of it", new long[] {x.said(-1), x.said(0), x.said(1)}, 1, 3, -1);
        Check.due("35: a fault", Check.sentence(x, "leaf and"), -9);
        Check.due("36: it stays", x.said(0), 3);
        x.grows(1);
        x.votes(1, 0, 2);
        x.votes(0, 0, 2);
        x.looks(1, 5);
        // r 0, x 1, p 2, y 3, q 4; 5 on x. The base is p (b has 9 there), the way p, y, q.
        said(x, "leaf", 4, 5);
        said(x, "point", 0, 2, 4, 5);
        said(x, "just", 0, 2);
        said(x, "final", 0);
        said(x, "chosen", 2, 3, 4);
        said(x, "under x", 2, 3, 4, 5);
        said(x, "under q");
        said(x, "height = 2", 2, 5);
        said(x, "height<2", 0, 1);
        said(x, "height > 2", 3, 4);
        said(x, "level > 0", 2, 4, 5);
        said(x, "level < 1", 0);
        said(x, "level = 1", 2, 5);
        said(x, "not level < 9", 1, 3);
        said(x, "heft = 9", 0, 1, 5);
        said(x, "heft > 8", 0, 1, 5);
        said(x, "heft < 9", 2, 3, 4);
        said(x, "number = 3", 3);
        said(x, "number < 2", 0, 1);
        said(x, "number > 3", 4, 5);
        said(x, "number > 999");
        said(x, "just or leaf and chosen", 0, 2, 4);
        said(x, "leaf and chosen or just", 0, 2, 4);
        said(x, "(just or leaf) and chosen", 2, 4);
        said(x, "number = 0 or number = 1 or number = 2 and leaf or number = 4", 0, 1, 4);
        said(x, "not just and not leaf", 1, 3);
        said(x, "not (just and not leaf) and point", 4, 5);
        said(x, "not not not just", 1, 3, 4, 5);
        x.undo();
        Check.due("36: by what is so now", Check.sentence(x, "heft > 0"), 1);
        Check.due("36: no hefts", x.said(-1), 0);
        x.looks(0, 1);
        x.looks(1, 1);
        Check.due("36: hefts", x.said(-1), 2);
        FinalLinks y = new FinalLinks();
        Check.due("35: without blocks", Check.sentence(y, "not leaf"), 2);
        Check.row("36: without blocks", new long[] {y.said(-1), y.said(0)}, 0, -1);
    }

    private static void image() {
        FinalLinks x = Check.withChain(FORKED);
        Check.row("37: no such place", new long[] {x.image(2) ? 1 : 0, x.image(-1) ? 1 : 0,
            x.restore(2) ? 1 : 0, x.restore(-1) ? 1 : 0, x.restore(0) ? 1 : 0}, 0, 0, 0, 0, 0);
        x.votes(0, 0, 1);
        x.looks(1, 2);
        x.grows(3);
        Check.sentence(x, "leaf");
        Check.due("37: kept", x.image(1), true);
        Check.due("38: the other place is empty", x.restore(0), false);
        x.votes(1, 0, 1);
        x.need(0, 2);
        x.way(2);
        x.tag(0);
        Check.chain(x, TWO_LONG);
        Check.due("37: kept, too", x.image(0), true);
        Check.sentence(x, "x");
        Check.book(x, 0, "grow r;");
        Check.sentence(x, "number < 0 !");
        Check.put(x, "block");
        x.grows(0);
        Check.due("38: as kept", x.restore(1), true);
        Check.row("38: it is", new long[] {x.now(3), x.voter(1, 2), x.count(1), x.count(0),
            x.count(2), x.said(-1), x.block(4, 0)}, 1, 2, 5, 3, 1, 2, 3);
        Check.row("38: what stays", new long[] {x.count(4), x.fault(), x.needed(), x.wayFrom(),
            x.byteAt(0), x.told(1)}, 5, 1, 3, 0, 'a', 1);
        Check.due("38: nothing can be undone", x.undo(), -1);
        x.votes(2, 0, 1);
        Check.due("38: again", x.restore(1), true);
        Check.due("38: as kept again", x.now(3), 1);
        Check.due("38: the other one", x.restore(0), true);
        Check.row("38: it is the other one", new long[] {x.count(0), x.count(2), x.now(3),
            x.said(-1)}, 2, 2, 0, -1);
        x.grows(0);
        Check.due("37: over the old one", x.image(0), true);
        x.undo();
        x.restore(0);
        Check.due("38: the new one", x.count(1), 6);
    }

    private static void count() {
        FinalLinks x = Check.withChain(TWO_LONG);
        Check.put(x, "abc");
        Check.row("39: counts", new long[] {x.count(0), x.count(1), x.count(2), x.count(3),
            x.count(4), x.count(5), x.count(-1)}, 2, 5, 2, 3, 3, -1, -1);
        x.grows(4);
        x.grows(5);
        Check.row("39: grown", new long[] {x.count(1), x.count(3)}, 7, 4);
        FinalLinks y = Check.withChain("epoch 4;block r;");
        Check.row("39: another epoch", new long[] {y.count(2), y.count(3)}, 4, 1);
    }

    /** No argument makes the machine throw: only NoSuchElementException may come. */
    private static void wildArguments() {
        int[] wild = {Integer.MIN_VALUE, -1001, -2, -1, 0, 1, 19, 20, 31, 32, 47, 48, 63, 64, 1000,
            Integer.MAX_VALUE};
        FinalLinks x = Check.withChain(FORKED);
        Check.sentence(x, "leaf or chosen");
        x.drawn(60, 11);
        x.image(0);
        for (int a : wild) {
            for (int b : wild) {
                Check.answerOf(() -> x.block(a, b));
                x.ahead(a, b);
                x.fork(a, b);
                x.weight(a, b);
                x.voter(a, b);
                x.vote(a, b);
                x.looks(a, b);
                x.evidence(a, b);
                x.need(a, b);
                x.drawn(a, b);
                for (int c : wild) {
                    Check.answerOf(() -> x.link(a, b, c));
                    x.votes(a, b, c);
                    x.offends(a, b, c);
                    x.odds(a, b, c);
                }
            }
            x.end(a);
            x.feed(a, a, a, a, a);
            x.grows(a);
            x.now(a);
            x.chosen(a);
            x.way(a);
            x.clashAt(a);
            Check.answerOf(() -> x.guilt(a));
            Check.answerOf(() -> x.mean(a));
            x.tag(a);
            x.byteAt(a);
            x.book(a);
            x.told(a);
            x.said(a);
            x.image(a);
            x.restore(a);
            x.count(a);
        }
        Check.due("all calls ended", x.restore(0), true);
    }
}
