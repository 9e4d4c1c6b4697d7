/**
 * The document's "==== 2." and "==== 3.": each sentence that names a boundary, at the boundary and
 * at one step on either side of it. What a test is about is quoted above it.
 */
public final class RulesEdgesTest {
    /** Blocks r 0, k 1, l 2, m 3, n 4, o 5 on one another; voter a of weight 1. */
    private static final String LONG_WAY = "voter a 1;block r;block k on r;block l on k;"
            + "block m on l;block n on m;block o on n;";
    /** r 0; k 1 and l 2 on r; m 3 on k, n 4 on l; o 5 on m, p 6 on n. Voters of 1 each. */
    private static final String TWO_WAYS = "voter a 1;voter b 1;voter c 1;block r;block k on r;"
            + "block l on r;block m on k;block n on l;block o on m;block p on n;";

    private RulesEdgesTest() {
    }

    public static void main(String[] args) {
        heights();
        pointsAndLevels();
        weightsOfPoints();
        votesFromPointToPoint();
        votersOfALink();
        foreAndRear();
        foreAndRearOfLongEpochs();
        foreAndRearAreAhead();
        twoThirds();
        twoThirdsOfBoth();
        weightsAboveZero();
        rootIsJustAndFinal();
        justBySources();
        finalByNextLevel();
        offencesOfLevels();
        offencesOfEveryTwo();
        offenders();
        latestLook();
        baseOfLevels();
        heftOfLooks();
        chosenWay();
        whyNotVote();
        whyNotLook();
        whyNotGrow();
        needIsTheFewest();
        needOfLikeOnes();
        needWithoutOffenders();
        needOfNone();
        wayIsTheLeastNeed();
        wayOfLikeOnes();
        wayOfNone();
        clashes();
        guiltInLeastTerms();
        meanInLeastTerms();
        tags();
        drawnWithoutBlocks();
        drawnWithoutVoters();
        drawnByWrappingSeeds();
        drawnDeedsThatCannotBe();
        newChain();
        chainWithAFault();
        throwingChangesNothing();
        Check.finish("RulesEdgesTest");
    }

    private static FinalLinks grownWay(String head, int blocks) {
        FinalLinks x = Check.withChain(head + "block r;");
        for (int b = 0; b + 1 < blocks; b++) {
            x.grows(b);
        }
        return x;
    }

    /** "HEIGHT of a BLOCK: how many are AHEAD of it" */
    private static void heights() {
        FinalLinks x = grownWay("", 20);
        for (int b = 0; b < 20; b++) {
            Check.due("height of " + b, x.block(b, 1), b);
            Check.due("the next one is behind " + b, x.ahead(b, b + 1), b < 19 ? 1 : -1);
            Check.due("none is ahead of itself, " + b, x.ahead(b, b), 0);
            Check.due("the root is ahead of " + b, x.ahead(0, b), b > 0 ? 1 : 0);
            Check.due("none is ahead of the root, " + b, x.ahead(b, 0), 0);
        }
        FinalLinks y = Check.withChain(TWO_WAYS);
        Check.row("heights on two ways", new long[] {y.block(0, 1), y.block(1, 1), y.block(2, 1),
            y.block(3, 1), y.block(4, 1), y.block(5, 1), y.block(6, 1)}, 0, 1, 1, 2, 2, 3, 3);
    }

    /** "POINTS: those whose HEIGHT is divided by 'epoch'; LEVEL of one: HEIGHT by 'epoch'" */
    private static void pointsAndLevels() {
        int[] points = {20, 10, 7, 5};
        for (int epoch = 1; epoch <= 4; epoch++) {
            FinalLinks x = grownWay("epoch " + epoch + ";voter a 1;", 20);
            Check.due("points by " + epoch, x.count(3), points[epoch - 1]);
            int level = 0;
            int left = 0;
            for (int b = 0; b < 20; b++) {
                Check.due("level of " + b + " by " + epoch, x.block(b, 2), left == 0 ? level : -1);
                Check.due("weight by " + b, x.weight(b, 0), left == 0 ? 1 : -1);
                left++;
                if (left == epoch) {
                    left = 0;
                    level++;
                }
            }
        }
        Check.due("the root is a point", grownWay("epoch 4;", 1).block(0, 2), 0);
    }

    /** "those as told, then as BLOCKS from the ROOT to it (it, too) change them, one by one" */
    private static void weightsOfPoints() {
        FinalLinks x = Check.withChain("epoch 2;voter a 1;voter b 7;block r change a 2;"
                + "block s on r change a 3;block t on s change a 4;block u on t change a 5;"
                + "block v on u;block w on s;block y on w change b 0;block z on y change b 6;");
        Check.due("as told", x.voter(0, 0), 1);
        Check.due("it, too: the root", x.weight(0, 0), 2);
        Check.due("it, too: a later one, over those ahead", x.weight(2, 0), 4);
        Check.due("one ahead that is no point", x.weight(4, 0), 5);
        Check.due("not by a block on another way", x.weight(5, 0), 3);
        Check.row("not by one behind it", new long[] {x.weight(5, 1), x.weight(7, 1)}, 7, 6);
        Check.row("not another voter", new long[] {x.weight(0, 1), x.weight(2, 1),
            x.weight(4, 1)}, 7, 7, 7);
        FinalLinks none = Check.withChain("voter a 3;block r;block p on r;");
        Check.row("without changes", new long[] {none.weight(0, 0), none.weight(1, 0)}, 3, 3);
        FinalLinks late = Check.withChain("block r;voter a 3;block p on r change a 4;voter b 5;");
        Check.row("of one that is told behind blocks", new long[] {late.weight(0, 0),
            late.weight(1, 0), late.weight(0, 1), late.weight(1, 1)}, 3, 4, 5, 5);
    }

    /** "VOTES go from a POINT (SOURCE) to one behind it (TARGET), numbered from 0 as they come" */
    private static void votesFromPointToPoint() {
        FinalLinks x = Check.withChain(TWO_WAYS);
        Check.row("behind it", new long[] {x.votes(0, 0, 1), x.votes(0, 1, 3), x.votes(1, 0, 6)},
                0, 0, 0);
        Check.row("not itself, ahead, beside", new long[] {x.votes(2, 1, 1), x.votes(2, 3, 1),
            x.votes(2, 1, 4)}, 2, 2, 2);
        Check.row("numbers", new long[] {x.vote(0, 0), x.vote(0, 1), x.vote(0, 2), x.vote(1, 0),
            x.vote(1, 1), x.vote(1, 2), x.vote(2, 0), x.vote(2, 1), x.vote(2, 2), x.vote(3, 0)},
                0, 0, 1, 0, 1, 3, 1, 0, 6, -1);
    }

    /** "A LINK is a SOURCE and a TARGET: its VOTERS are those with such a VOTE" */
    private static void votersOfALink() {
        FinalLinks x = Check.withChain(TWO_WAYS);
        x.votes(0, 0, 3);
        x.votes(2, 0, 3);
        x.votes(1, 1, 3);
        x.votes(1, 0, 1);
        Check.row("by both its ends", new long[] {x.link(0, 3, 0), x.link(1, 3, 0),
            x.link(0, 1, 0), x.link(0, 2, 0)}, 5, 2, 2, 0);
        Check.due("links with votes", x.now(4), 3);
        FinalLinks eight = Check.withChain(Texts.voters(8) + "block r;block p on r;");
        for (int v = 0; v < 8; v++) {
            eight.votes(v, 0, 1);
            Check.due("voters up to " + v, eight.link(0, 1, 0), (2 << v) - 1);
            Check.due("one link", eight.now(4), 1);
        }
    }

    /** "Its FORE .. the LEVEL ahead of its TARGET's .. its REAR .. (as told, if there is none)" */
    private static void foreAndRear() {
        FinalLinks x = Check.withChain("voter a 1;block r change a 2;block k on r change a 3;"
                + "block l on k change a 4;block m on l change a 5;");
        // What is told of the SOURCE does not matter, nor what the TARGET itself changes.
        Check.row("level 1", new long[] {x.link(0, 1, 2), x.link(0, 1, 4)}, 2, 1);
        Check.row("level 2", new long[] {x.link(1, 2, 2), x.link(1, 2, 4)}, 3, 2);
        Check.row("level 2 from 0", new long[] {x.link(0, 2, 2), x.link(0, 2, 4)}, 3, 2);
        Check.row("level 3", new long[] {x.link(2, 3, 2), x.link(2, 3, 4)}, 4, 3);
        Check.row("level 3 from 0", new long[] {x.link(0, 3, 2), x.link(0, 3, 4)}, 4, 3);
        x.votes(0, 0, 1);
        x.votes(0, 0, 3);
        Check.row("those of its voters", new long[] {x.link(0, 1, 1), x.link(0, 1, 3),
            x.link(0, 2, 1), x.link(0, 2, 3), x.link(0, 3, 1), x.link(0, 3, 3)},
                2, 1, 0, 0, 4, 3);
    }

    private static void foreAndRearOfLongEpochs() {
        FinalLinks x = Check.withChain("epoch 2;voter a 1;block r change a 2;"
                + "block k on r change a 3;block l on k change a 4;block m on l change a 5;"
                + "block n on m change a 6;block o on n change a 7;block p on o change a 8;");
        Check.row("level 1", new long[] {x.link(0, 2, 2), x.link(0, 2, 4)}, 2, 1);
        Check.row("level 2", new long[] {x.link(2, 4, 2), x.link(2, 4, 4)}, 4, 2);
        Check.row("level 3", new long[] {x.link(0, 6, 2), x.link(0, 6, 4)}, 6, 4);
    }

    /** "that is AHEAD of that": not another POINT of that LEVEL. */
    private static void foreAndRearAreAhead() {
        FinalLinks x = Check.withChain("voter a 1;block r;block k on r change a 7;"
                + "block l on r change a 8;block m on l;block n on k;block o on m;block p on n;");
        Check.row("fore by l", new long[] {x.link(0, 3, 2), x.link(0, 3, 4)}, 8, 1);
        Check.row("fore by k", new long[] {x.link(0, 4, 2), x.link(0, 4, 4)}, 7, 1);
        Check.row("rear by l", new long[] {x.link(0, 5, 2), x.link(0, 5, 4)}, 8, 8);
        Check.row("rear by k", new long[] {x.link(0, 6, 2), x.link(0, 6, 4)}, 7, 7);
    }

    /** "two thirds of all WEIGHTS at least" */
    private static void twoThirds() {
        // Of all sums 1 to 18 the least that is enough, written out.
        int[] enough = {0, 1, 2, 2, 3, 4, 4, 5, 6, 6, 7, 8, 8, 9, 10, 10, 11, 12, 12};
        for (int mine = 0; mine <= 9; mine++) {
            for (int other = 0; other <= 9; other++) {
                int all = mine + other;
                FinalLinks x = Check.withChain("voter a " + mine + ";voter b " + other
                        + ";block r;block p on r;");
                x.votes(0, 0, 1);
                boolean due = all > 0 && mine >= enough[all];
                Check.due(mine + " of " + all, x.link(0, 1, 5), due ? 1 : 0);
                Check.due(mine + " of " + all + ": links", x.now(5), due ? 1 : 0);
                Check.due(mine + " of " + all + ": just", x.block(1, 5), due ? 1 : 0);
            }
        }
        FinalLinks eight = Check.withChain("voter a 9;voter b 9;voter c 9;voter d 9;voter e 9;"
                + "voter f 9;voter g 9;voter h 9;block r;block p on r;");
        for (int v = 0; v < 8; v++) {
            eight.votes(v, 0, 1);
            Check.row((v + 1) + " of eight", new long[] {eight.link(0, 1, 1), eight.link(0, 1, 2),
                eight.link(0, 1, 5)}, 9 * (v + 1), 72, v >= 5 ? 1 : 0);
        }
    }

    /** "by FORE and by REAR" */
    private static void twoThirdsOfBoth() {
        FinalLinks rear = Check.withChain("voter a 2;voter b 1;block r change b 2;block p on r;");
        rear.votes(0, 0, 1);
        Check.row("by rear alone", new long[] {rear.link(0, 1, 1), rear.link(0, 1, 2),
            rear.link(0, 1, 3), rear.link(0, 1, 4), rear.link(0, 1, 5)}, 2, 4, 2, 3, 0);
        FinalLinks fore = Check.withChain("voter a 1;voter b 1;block r change a 2;block p on r;");
        fore.votes(0, 0, 1);
        Check.row("by fore alone", new long[] {fore.link(0, 1, 1), fore.link(0, 1, 2),
            fore.link(0, 1, 3), fore.link(0, 1, 4), fore.link(0, 1, 5)}, 2, 3, 1, 2, 0);
        FinalLinks both = Check.withChain("voter a 2;voter b 1;block r change a 4;block p on r;");
        both.votes(0, 0, 1);
        Check.due("by both", both.link(0, 1, 5), 1);
    }

    private static long countsWith(int told, int changed) {
        FinalLinks x = Check.withChain("voter a " + told + ";block r change a " + changed
                + ";block p on r;");
        x.votes(0, 0, 1);
        return x.link(0, 1, 5) + 10 * x.now(5) + 100 * x.block(1, 5);
    }

    /** "(and these are above 0)" */
    private static void weightsAboveZero() {
        Check.due("both are 0", countsWith(0, 0), 0);
        Check.due("fore is 0", countsWith(1, 0), 0);
        Check.due("rear is 0", countsWith(0, 1), 0);
        Check.due("both are 1", countsWith(1, 1), 111);
        FinalLinks none = Check.withChain("block r;block p on r;");
        Check.row("no voters", new long[] {none.link(0, 1, 0), none.link(0, 1, 1),
            none.link(0, 1, 2), none.link(0, 1, 5), none.need(0, 1)}, 0, 0, 0, 0, -1);
    }

    /** "The ROOT is JUST", "FINAL: the ROOT" */
    private static void rootIsJustAndFinal() {
        FinalLinks none = new FinalLinks();
        Check.row("no blocks", new long[] {none.now(0), none.now(1)}, 0, 0);
        FinalLinks one = Check.withChain("block r;");
        Check.row("one block", new long[] {one.now(0), one.now(1), one.block(0, 5),
            one.block(0, 6)}, 1, 1, 1, 1);
        FinalLinks two = Check.withChain("voter a 0;block r;block p on r;");
        Check.row("two blocks", new long[] {two.now(0), two.now(1), two.block(1, 5),
            two.block(1, 6)}, 1, 1, 0, 0);
    }

    /** "each TARGET of a LINK that COUNTS whose SOURCE is JUST" */
    private static void justBySources() {
        FinalLinks x = Check.withChain(LONG_WAY);
        x.votes(0, 3, 4);
        Check.row("its source is not just", new long[] {x.now(0), x.now(1), x.now(5)}, 1, 1, 1);
        x.votes(0, 1, 3);
        Check.row("two behind one another", new long[] {x.now(0), x.now(1), x.now(5)}, 1, 1, 2);
        x.votes(0, 0, 1);
        Check.row("all at once", new long[] {x.now(0), x.now(1), x.now(5)}, 27, 9, 3);
        x.undo();
        Check.row("none again", new long[] {x.now(0), x.now(1), x.now(5)}, 1, 1, 2);
        FinalLinks y = Check.withChain(LONG_WAY);
        y.votes(0, 0, 1);
        y.votes(0, 0, 2);
        y.votes(0, 1, 2);
        Check.row("by two links, as by one", new long[] {y.now(0), y.now(1), y.now(5)}, 7, 3, 3);
    }

    /** "a JUST SOURCE of a LINK that COUNTS and whose TARGET is of the next LEVEL" */
    private static void finalByNextLevel() {
        FinalLinks x = Check.withChain(LONG_WAY);
        x.votes(0, 0, 1);
        x.votes(0, 1, 3);
        Check.row("two levels on", new long[] {x.block(1, 5), x.block(1, 6), x.block(3, 5)},
                1, 0, 1);
        x.votes(0, 1, 2);
        Check.row("the next level", new long[] {x.block(1, 6), x.block(2, 5), x.block(2, 6)},
                1, 1, 0);
        FinalLinks y = Check.withChain(LONG_WAY);
        y.votes(0, 1, 2);
        Check.row("a source that is not just", new long[] {y.link(1, 2, 5), y.block(1, 6)}, 1, 0);
        FinalLinks z = Check.withChain("epoch 2;" + TWO_WAYS + "block s on o;block t on s;");
        for (int v = 0; v < 2; v++) {
            z.votes(v, 0, 3);
            z.votes(v, 3, 7);
        }
        Check.row("the next level, two blocks on", new long[] {z.block(3, 6), z.block(7, 5),
            z.block(7, 6), z.now(1)}, 1, 1, 0, 9);
        z.undo();
        Check.row("a link that does not count", new long[] {z.block(3, 5), z.block(3, 6)}, 1, 0);
    }

    private static long how(int s, int t, int s2, int t2) {
        FinalLinks x = Check.withChain(TWO_WAYS);
        x.votes(0, s, t);
        long due = x.offends(0, s2, t2);
        x.votes(0, s2, t2);
        Check.due("as evidence tells", x.now(6) == 0 ? 0 : x.evidence(0, 2), due);
        return due;
    }

    /** "1 their TARGETS are of one LEVEL; 2 .. of a lower LEVEL, and .. of a higher LEVEL" */
    private static void offencesOfLevels() {
        Check.due("one target", how(0, 3, 1, 3), 1);
        Check.due("two targets of one level", how(0, 3, 0, 4), 1);
        Check.due("two targets of one level, from two sources", how(1, 5, 4, 6), 1);
        Check.due("the target a level higher, like sources", how(0, 3, 0, 5), 0);
        Check.due("the target a level lower, like sources", how(0, 3, 0, 1), 0);
        Check.due("source lower, target higher", how(1, 3, 0, 5), 2);
        Check.due("source higher, target lower", how(0, 5, 1, 3), 2);
        Check.due("the same on two ways", how(0, 5, 2, 4), 2);
        Check.due("source higher, target higher", how(0, 3, 1, 5), 0);
        Check.due("source lower, target lower", how(1, 5, 0, 3), 0);
        Check.due("behind one another", how(0, 1, 1, 3), 0);
        Check.due("apart from one another", how(0, 1, 3, 5), 0);
        Check.due("sources of one level, targets of one", how(1, 3, 2, 4), 1);
        Check.due("sources of one level", how(1, 3, 2, 6), 0);
    }

    private static void offencesOfEveryTwo() {
        int[] level = {0, 1, 1, 2, 2, 3, 3};
        int[][] links = {{0, 1}, {0, 2}, {0, 3}, {0, 4}, {0, 5}, {0, 6}, {1, 3}, {1, 5}, {2, 4},
            {2, 6}, {3, 5}, {4, 6}};
        for (int[] a : links) {
            for (int[] b : links) {
                if (a != b) {
                    int sources = Integer.compare(level[a[0]], level[b[0]]);
                    int targets = Integer.compare(level[a[1]], level[b[1]]);
                    int due = targets == 0 ? 1 : sources * targets < 0 ? 2 : 0;
                    Check.due(a[0] + " to " + a[1] + ", " + b[0] + " to " + b[1],
                            how(a[0], a[1], b[0], b[1]), due);
                }
            }
        }
    }

    /** "Two VOTES of one VOTER OFFEND", "OFFENDERS have such" */
    private static void offenders() {
        FinalLinks x = Check.withChain(TWO_WAYS);
        x.votes(0, 0, 1);
        x.votes(1, 0, 2);
        Check.row("of two voters", new long[] {x.now(2), x.now(6), x.voter(0, 3), x.voter(1, 3)},
                0, 0, 0, 0);
        x.votes(1, 0, 1);
        Check.row("of one voter", new long[] {x.now(2), x.now(6), x.voter(0, 3), x.voter(1, 3),
            x.voter(2, 3)}, 2, 1, 0, 1, 0);
        x.votes(1, 0, 3);
        x.votes(1, 0, 4);
        Check.row("by two pairs, as by one", new long[] {x.now(2), x.now(6)}, 2, 2);
        x.undo();
        x.undo();
        x.undo();
        Check.row("undone", new long[] {x.now(2), x.now(6)}, 0, 0);
        FinalLinks eight = Check.withChain(Texts.voters(8) + "block r;block p on r;block q on r;");
        eight.votes(7, 0, 1);
        eight.votes(7, 0, 2);
        Check.due("the last voter", eight.now(2), 128);
        eight.votes(0, 0, 1);
        eight.votes(0, 0, 2);
        Check.due("and the first", eight.now(2), 129);
    }

    /** "The LOOK of a VOTER is the BLOCK at which it looked last" */
    private static void latestLook() {
        FinalLinks x = Check.withChain(TWO_WAYS);
        Check.due("none yet", x.voter(0, 2), -1);
        x.looks(0, 5);
        x.looks(0, 6);
        x.looks(1, 0);
        Check.row("the last", new long[] {x.voter(0, 2), x.voter(1, 2), x.voter(2, 2)}, 6, 0, -1);
        Check.row("not the one before", new long[] {x.block(5, 7), x.block(6, 7)}, 0, 1);
    }

    /** "BASE: the JUST POINT of the greatest LEVEL, of like ones the least" */
    private static void baseOfLevels() {
        FinalLinks x = Check.withChain(TWO_WAYS);
        Check.due("the root", x.now(7), 0);
        x.votes(0, 0, 4);
        x.votes(1, 0, 4);
        Check.due("level 2", x.now(7), 4);
        x.votes(0, 0, 1);
        x.votes(1, 0, 1);
        Check.row("not a lesser one of a lower level", new long[] {x.now(0), x.now(7)}, 19, 4);
        x.votes(0, 1, 3);
        x.votes(1, 1, 3);
        Check.row("of like ones the least", new long[] {x.now(0), x.now(7)}, 27, 3);
        x.votes(0, 4, 6);
        x.votes(1, 4, 6);
        Check.row("a higher one on the other way", new long[] {x.now(0), x.now(7)}, 91, 6);
        Check.due("no blocks", new FinalLinks().now(7), -1);
    }

    /** "WEIGHTS, as of the BASE, of VOTERS who are no OFFENDERS, and whose LOOK is it, .." */
    private static void heftOfLooks() {
        FinalLinks x = Check.withChain("voter a 4;voter b 5;block r change a 2;"
                + "block k on r change a 3;block l on k change a 6;block m on r;");
        Check.row("no looks", new long[] {x.block(0, 7), x.block(2, 7)}, 0, 0);
        x.looks(0, 1);
        Check.row("as of the root; it and those ahead of it", new long[] {x.block(0, 7),
            x.block(1, 7), x.block(2, 7), x.block(3, 7)}, 2, 2, 0, 0);
        x.votes(0, 0, 1);
        x.votes(1, 0, 1);
        Check.row("as of k, for the root, too", new long[] {x.now(7), x.block(0, 7),
            x.block(1, 7), x.block(2, 7)}, 1, 3, 3, 0);
        x.looks(1, 3);
        Check.row("of two", new long[] {x.block(0, 7), x.block(1, 7), x.block(3, 7)}, 8, 3, 5);
        x.votes(1, 0, 3);
        Check.row("not of an offender", new long[] {x.now(2), x.block(0, 7), x.block(3, 7)},
                2, 3, 0);
        x.undo();
        Check.due("an offender no more", x.block(3, 7), 5);
        x.undo();
        x.undo();
        Check.row("the base is r again", new long[] {x.now(7), x.block(0, 7)}, 0, 2);
    }

    /** "on to that of the BLOCKS on it that has the most HEFT, of like ones the least" */
    private static void chosenWay() {
        FinalLinks x = Check.withChain("voter a 3;voter b 2;voter c 1;block r;block k on r;"
                + "block l on r;block m on r;block n on l;");
        Check.row("no heft: the least", new long[] {x.chosen(0), x.chosen(1), x.chosen(2),
            x.now(8)}, 0, 1, -1, 1);
        x.looks(0, 4);
        x.looks(1, 3);
        Check.row("3 above 2", new long[] {x.chosen(1), x.chosen(2), x.chosen(3), x.now(8)},
                2, 4, -1, 4);
        x.looks(2, 3);
        Check.row("3 like 3: the least", new long[] {x.chosen(1), x.now(8)}, 2, 4);
        x.looks(2, 1);
        x.looks(1, 1);
        Check.row("3 like 3, the other way round", new long[] {x.chosen(1), x.now(8)}, 1, 1);
        x.looks(2, 0);
        Check.row("a look at the root weighs for none of them", new long[] {x.chosen(1),
            x.block(0, 7)}, 2, 6);
        FinalLinks deep = grownWay("", 20);
        Check.row("twenty long", new long[] {deep.chosen(0), deep.chosen(18), deep.chosen(19),
            deep.chosen(20), deep.now(8)}, 0, 18, 19, -1, 19);
    }

    /** "To VOTE: why not, the least: 1 .. 2 .. 3 .. 4 there are 48" */
    private static void whyNotVote() {
        FinalLinks x = grownWay("epoch 2;" + Texts.voters(8), 20);
        Check.row("1: no point", new long[] {x.votes(0, 1, 2), x.votes(0, 0, 1),
            x.votes(0, 1, 3)}, 1, 1, 1);
        Check.row("1 ahead of 2", new long[] {x.votes(0, 3, 1), x.votes(0, 3, 3),
            x.votes(0, 2, 1)}, 1, 1, 1);
        Check.row("2: not ahead", new long[] {x.votes(0, 2, 0), x.votes(0, 2, 2)}, 2, 2);
        for (int i = 0; i < 47; i++) {
            Check.due("vote " + i, x.votes(i % 8, 0, 2 + 2 * (i / 8)), 0);
        }
        Check.row("47", new long[] {x.now(3), x.votes(0, 0, 2), x.votes(0, 2, 0)}, 47, 3, 2);
        Check.row("48", new long[] {x.votes(7, 0, 12), x.now(3)}, 0, 48);
        Check.row("4: there are 48", new long[] {x.votes(0, 0, 14), x.votes(7, 2, 4), x.now(3)},
                4, 4, 48);
        Check.row("1, 2, 3 ahead of 4", new long[] {x.votes(0, 1, 2), x.votes(0, 2, 0),
            x.votes(0, 0, 2)}, 1, 2, 3);
        Check.due("offends() does not ask for 4", x.offends(0, 2, 4), 1);
        x.undo();
        Check.row("47 again", new long[] {x.now(3), x.votes(0, 0, 14), x.now(3)}, 47, 0, 48);
        // Such a VOTE: of that VOTER, that SOURCE and that TARGET.
        FinalLinks y = Check.withChain(TWO_WAYS);
        y.votes(0, 0, 3);
        Check.row("3: such a one", new long[] {y.votes(0, 0, 3), y.votes(1, 0, 3),
            y.votes(0, 1, 3), y.votes(0, 0, 5)}, 3, 0, 0, 0);
    }

    /** "To LOOK: 1 that is its LOOK" */
    private static void whyNotLook() {
        FinalLinks x = Check.withChain(TWO_WAYS);
        Check.row("at the first block", new long[] {x.looks(0, 0), x.looks(0, 0)}, 0, 1);
        Check.row("another voter", new long[] {x.looks(1, 0), x.looks(1, 0)}, 0, 1);
        Check.row("another one, and back", new long[] {x.looks(0, 1), x.looks(0, 0),
            x.looks(0, 0)}, 0, 0, 1);
        x.undo();
        x.undo();
        Check.due("as before", x.looks(0, 0), 1);
        x.undo();
        x.undo();
        Check.due("none looks", x.looks(0, 0), 0);
    }

    /** "To GROW a BLOCK: 1 there are 20: a new one without a NAME and a change is on it" */
    private static void whyNotGrow() {
        FinalLinks x = Check.withChain("voter a 4;block r change a 2;");
        for (int b = 1; b < 20; b++) {
            Check.due("block " + b, x.grows(b / 2), 0);
            Check.row("it is", new long[] {x.count(1), x.block(b, 0), x.block(b, 4),
                x.weight(b, 0)}, b + 1, b / 2, -1, 2);
        }
        Check.row("there are 20", new long[] {x.grows(0), x.grows(19), x.count(1)}, 1, 1, 20);
        x.undo();
        Check.row("19, 20", new long[] {x.count(1), x.grows(3), x.count(1), x.block(19, 0),
            x.grows(3)}, 19, 0, 20, 3, 1);
    }

    private static void needs(FinalLinks x, int s, int t, long many, long bits) {
        Check.due("need of " + s + " to " + t, x.need(s, t), many);
        Check.due("needed for " + s + " to " + t, x.needed(), bits);
    }

    /** "the fewest VOTERS more .. by whom it would COUNT" */
    private static void needIsTheFewest() {
        FinalLinks x = Check.withChain("voter a 1;voter b 1;voter c 1;voter d 3;block r;"
                + "block p on r;");
        // Of 6 at least 4.
        needs(x, 0, 1, 2, 9);
        x.votes(0, 0, 1);
        needs(x, 0, 1, 1, 8);
        x.votes(3, 0, 1);
        needs(x, 0, 1, 0, 0);
        x.votes(1, 0, 1);
        needs(x, 0, 1, 0, 0);
        FinalLinks eight = Check.withChain(Texts.voters(8) + "block r;block p on r;");
        needs(eight, 0, 1, 6, 63);
        eight.votes(0, 0, 1);
        needs(eight, 0, 1, 5, 62);
        // Of 7 at least 5; one who has no WEIGHT is not needed.
        FinalLinks seven = Check.withChain("voter a 1;voter b 1;voter c 1;voter d 1;voter e 1;"
                + "voter f 1;voter g 1;voter h 0;block r;block p on r;");
        needs(seven, 0, 1, 5, 31);
        FinalLinks both = Check.withChain("voter a 9;voter b 1;block r change b 9;"
                + "block p on r change a 0;block q on p;");
        needs(both, 0, 1, 2, 3);
        needs(both, 0, 2, 2, 3);
    }

    /** "of like ones those of the least number by bits" */
    private static void needOfLikeOnes() {
        // Of 27 at least 18: a, d, e (bits 25) and b, c, e (bits 22) have them, and others.
        FinalLinks x = Check.withChain("voter a 3;voter b 4;voter c 5;voter d 6;voter e 9;"
                + "block r;block p on r;");
        needs(x, 0, 1, 3, 22);
        FinalLinks y = Check.withChain("voter a 1;voter b 1;voter c 1;block r;block p on r;");
        needs(y, 0, 1, 2, 3);
        y.votes(0, 0, 1);
        needs(y, 0, 1, 1, 2);
    }

    /** "(who are no OFFENDERS, have no such VOTE, and would be none by it)" */
    private static void needWithoutOffenders() {
        FinalLinks x = Check.withChain(TWO_WAYS);
        x.votes(0, 0, 3);
        needs(x, 0, 4, 2, 6);
        needs(x, 0, 1, 2, 3);
        needs(x, 1, 5, 2, 3);
        x.votes(0, 1, 5);
        needs(x, 1, 3, 2, 6);
        x.undo();
        x.votes(0, 0, 4);
        needs(x, 0, 5, 2, 6);
        // What an OFFENDER has voted is still counted, and it is not needed again.
        needs(x, 0, 3, 1, 2);
        x.votes(1, 0, 1);
        x.votes(1, 0, 2);
        Check.due("one voter is left", x.need(0, 5), -1);
        Check.due("needed as before", x.needed(), 2);
        needs(x, 0, 3, 1, 4);
    }

    /** "NEED" of none: there are not so many */
    private static void needOfNone() {
        FinalLinks x = Check.withChain("voter a 2;voter b 1;block r;block p on r;block q on r;");
        needs(x, 0, 1, 1, 1);
        x.votes(0, 0, 2);
        Check.row("b alone is not enough", new long[] {x.need(0, 1), x.needed()}, -1, 1);
        FinalLinks zero = Check.withChain("voter a 0;block r;block p on r;");
        Check.row("no weights", new long[] {zero.need(0, 1), zero.needed()}, -1, -1);
    }

    private static void wayTo(FinalLinks x, int t, long many, long from) {
        Check.due("way to " + t, x.way(t), many);
        Check.due("way from, to " + t, x.wayFrom(), from);
    }

    /** "WAY to a POINT: .. the least NEED of LINKS from JUST POINTS to it" */
    private static void wayIsTheLeastNeed() {
        FinalLinks x = Check.withChain(TWO_WAYS);
        wayTo(x, 1, 2, 0);
        x.votes(0, 1, 3);
        x.votes(1, 1, 3);
        // The LINK from k COUNTS, but k is not JUST; a and b would offend from r, c is not enough.
        Check.row("from no just point", new long[] {x.way(3), x.wayFrom()}, -1, 0);
        x.votes(0, 0, 1);
        x.votes(1, 0, 1);
        wayTo(x, 3, 0, -1);
        x.votes(2, 3, 5);
        wayTo(x, 5, 1, 3);
        x.votes(0, 3, 5);
        wayTo(x, 5, 0, -1);
    }

    /** "of like ones the SOURCE of the least number (none, if it is JUST)" */
    private static void wayOfLikeOnes() {
        FinalLinks x = Check.withChain(TWO_WAYS);
        x.votes(0, 0, 1);
        x.votes(1, 0, 1);
        wayTo(x, 3, 2, 0);
        x.votes(2, 1, 3);
        wayTo(x, 3, 1, 1);
        x.undo();
        x.votes(2, 0, 3);
        wayTo(x, 3, 1, 0);
        wayTo(x, 0, 0, -1);
        wayTo(x, 1, 0, -1);
    }

    /** "WAY" of none */
    private static void wayOfNone() {
        FinalLinks x = Check.withChain("voter a 2;voter b 1;block r;block p on r;block q on r;");
        wayTo(x, 1, 1, 0);
        x.votes(0, 0, 2);
        Check.row("by none", new long[] {x.way(1), x.wayFrom()}, -1, 0);
        wayTo(x, 2, 0, -1);
    }

    private static void votesOfTwo(FinalLinks x, int s, int t, int first, int second) {
        x.votes(first, s, t);
        x.votes(second, s, t);
    }

    /** "CLASH: two FINAL POINTS, none AHEAD of the other; the first: the least, .." */
    private static void clashes() {
        FinalLinks x = Check.withChain(TWO_WAYS + "block s on r;block t on s;");
        votesOfTwo(x, 0, 1, 0, 1);
        votesOfTwo(x, 1, 3, 0, 1);
        votesOfTwo(x, 3, 5, 0, 1);
        Check.row("r, k, m final, on one way", new long[] {x.now(1), x.clash(), x.clashAt(0),
            x.clashAt(1)}, 11, 0, -1, -1);
        votesOfTwo(x, 0, 7, 1, 2);
        votesOfTwo(x, 7, 8, 1, 2);
        Check.row("s is final, too", new long[] {x.now(1), x.clash(), x.clashAt(0), x.clashAt(1)},
                139, 1, 1, 7);
        votesOfTwo(x, 0, 2, 0, 2);
        Check.row("l is just alone", new long[] {x.now(1), x.clashAt(0), x.clashAt(1)},
                139, 1, 7);
        votesOfTwo(x, 2, 4, 0, 2);
        Check.row("l is final: the least other one", new long[] {x.now(1), x.clashAt(0),
            x.clashAt(1)}, 143, 1, 2);
        x.undo();
        Check.row("undone", new long[] {x.clash(), x.clashAt(0), x.clashAt(1)}, 1, 1, 7);
        votesOfTwo(x, 2, 4, 0, 2);
        Check.due("asked for the second one at once", x.clashAt(1), 2);
        Check.row("no blocks", new long[] {new FinalLinks().clash(),
            new FinalLinks().clashAt(0)}, 0, -1);
    }

    private static void offend(FinalLinks x, int v) {
        x.votes(v, 0, 1);
        x.votes(v, 0, 2);
    }

    private static long[] guiltOf(FinalLinks x) {
        return new long[] {x.guilt(0), x.guilt(1)};
    }

    /** "GUILT: WEIGHTS as told of all OFFENDERS, by those of all VOTERS", "in least terms" */
    private static void guiltInLeastTerms() {
        FinalLinks x = Check.withChain("voter a 6;voter b 3;voter c 0;block r change a 1;"
                + "block p on r;block q on r;");
        Check.row("none", guiltOf(x), 0, 1);
        offend(x, 2);
        Check.row("one of weight 0", guiltOf(x), 0, 1);
        offend(x, 1);
        Check.row("3 of 9", guiltOf(x), 1, 3);
        offend(x, 0);
        Check.row("9 of 9", guiltOf(x), 1, 1);
        FinalLinks odd = Check.withChain("voter a 5;voter b 7;block r;block p on r;block q on r;");
        offend(odd, 0);
        Check.row("5 of 12", guiltOf(odd), 5, 12);
        FinalLinks four = Check.withChain("voter a 4;voter b 2;voter c 8;block r;block p on r;"
                + "block q on r;");
        offend(four, 0);
        Check.row("4 of 14", guiltOf(four), 2, 7);
        offend(four, 2);
        Check.row("12 of 14", guiltOf(four), 6, 7);
        FinalLinks zero = Check.withChain("voter a 0;block r change a 9;block p on r;");
        Check.throwing("all as told are 0", () -> zero.guilt(0));
        FinalLinks one = Check.withChain("voter a 1;block r change a 0;block p on r;");
        Check.row("all as told are 1", guiltOf(one), 0, 1);
    }

    private static long[] meanOf(FinalLinks x) {
        return new long[] {x.mean(0), x.mean(1)};
    }

    /** "MEAN: HEIGHTS of all leaves (on which no BLOCK is), by how many there are" */
    private static void meanInLeastTerms() {
        Check.throwing("no blocks", () -> new FinalLinks().mean(0));
        FinalLinks x = Check.withChain("block r;");
        Check.row("0 of 1", meanOf(x), 0, 1);
        x.grows(0);
        Check.row("1 of 1", meanOf(x), 1, 1);
        x.grows(0);
        Check.row("2 of 2", meanOf(x), 1, 1);
        x.grows(1);
        Check.row("3 of 2", meanOf(x), 3, 2);
        x.grows(0);
        Check.row("4 of 3", meanOf(x), 4, 3);
        x.grows(2);
        Check.row("5 of 3", meanOf(x), 5, 3);
        x.grows(4);
        Check.row("6 of 3", meanOf(x), 2, 1);
        Check.row("19 of 1", meanOf(grownWay("", 20)), 19, 1);
        FinalLinks wide = Check.withChain(Texts.blocks(20));
        Check.row("19 of 19", meanOf(wide), 1, 1);
    }

    private static String tagOf(FinalLinks x, int k) {
        int length = x.tag(k);
        StringBuilder s = new StringBuilder();
        for (int i = 0; i < length; i++) {
            s.append((char) x.byteAt(i));
        }
        Check.due("the tag ends", x.byteAt(length), -1);
        return s.toString();
    }

    /** "TAG of a VOTE: the VOTER's NAME, ' from ', the SOURCE's number as digits, ' to ', .." */
    private static void tags() {
        FinalLinks x = grownWay("voter z 1;voter abcdefg 1;", 20);
        int[][] votes = {{0, 0, 1}, {0, 0, 9}, {0, 0, 10}, {0, 9, 10}, {0, 10, 11}, {0, 18, 19},
            {1, 18, 19}, {1, 0, 1}};
        String[] due = {"z from 0 to 1", "z from 0 to 9", "z from 0 to 10", "z from 9 to 10",
            "z from 10 to 11", "z from 18 to 19", "abcdefg from 18 to 19", "abcdefg from 0 to 1"};
        for (int k = 0; k < votes.length; k++) {
            x.votes(votes[k][0], votes[k][1], votes[k][2]);
            Check.due("tag: " + due[k], tagOf(x, k).equals(due[k]), true);
            Check.due("length: " + due[k], x.tag(k), due[k].length());
        }
    }

    /** "(no BLOCKS: nothing is drawn)" */
    private static void drawnWithoutBlocks() {
        FinalLinks none = new FinalLinks();
        FinalLinks voters = Check.withChain("voter a 1;");
        FinalLinks one = Check.withChain("voter a 1;block r;");
        Check.row("drawn by 0", new long[] {none.drawn(1, 0), voters.drawn(1, 0),
            one.drawn(1, 0)}, 0, 0, 1);
        Check.row("drawn 60", new long[] {none.drawn(60, 7), voters.drawn(60, 7)}, 0, 0);
        Check.row("as before", new long[] {none.count(1), voters.count(1), voters.now(3),
            voters.voter(0, 2), one.count(1)}, 0, 0, 0, -1, 2);
    }

    private static int next(int x) {
        return x * 1103515245 + 12345;
    }

    /** "(no VOTERS: no more draws)": of a DEED that does not grow there are two draws alone. */
    private static void drawnWithoutVoters() {
        int[] seeds = {0, 1, -1, 77, 123456789, Integer.MAX_VALUE, Integer.MIN_VALUE};
        for (int seed : seeds) {
            FinalLinks x = Check.withChain("block r;");
            FinalLinks y = Check.withChain("block r;");
            int s = seed;
            int due = 0;
            for (int i = 0; i < 60; i++) {
                s = next(s);
                int sort = (s >>> 8) % 8;
                s = next(s);
                int b = (s >>> 8) % y.count(1);
                due += sort == 0 && y.grows(b) == 0 ? 1 : 0;
            }
            Check.due("grown by " + seed, x.drawn(60, seed), due);
            for (int b = 0; b < y.count(1); b++) {
                Check.due("on which " + b + " is by " + seed, x.block(b, 0), y.block(b, 0));
            }
            Check.due("blocks by " + seed, x.count(1), y.count(1));
        }
    }

    /** "x becomes x * 1103515245 + 12345 (an int, wrapping), the draw is (x >>> 8) % n" */
    private static void drawnByWrappingSeeds() {
        int[] seeds = {0, 1, 2, -1, -2, 1073741824, Integer.MAX_VALUE, Integer.MIN_VALUE,
            Integer.MIN_VALUE + 1, Integer.MAX_VALUE - 1, 19, -987654321};
        for (int seed : seeds) {
            FinalLinks x = Check.withChain(TWO_WAYS);
            FinalLinks y = Check.withChain(TWO_WAYS);
            long s = seed;
            int due = 0;
            for (int i = 0; i < 60; i++) {
                s = wrapped(s);
                int sort = (int) ((s & 0xFFFFFFFFL) / 256 % 8);
                s = wrapped(s);
                int a = (int) ((s & 0xFFFFFFFFL) / 256 % y.count(1));
                if (sort == 0) {
                    due += y.grows(a) == 0 ? 1 : 0;
                    continue;
                }
                s = wrapped(s);
                int v = (int) ((s & 0xFFFFFFFFL) / 256 % 3);
                if (sort == 1 || sort == 2) {
                    due += y.looks(v, a) == 0 ? 1 : 0;
                    continue;
                }
                s = wrapped(s);
                int b = (int) ((s & 0xFFFFFFFFL) / 256 % y.count(1));
                due += y.votes(v, a, b) == 0 ? 1 : 0;
            }
            Check.due("done by " + seed, x.drawn(60, seed), due);
            Check.row("now by " + seed, Snapshot.of(x), Snapshot.of(y));
        }
    }

    /** The same without a wrap of the machine's own: the lower 32 bits of the true product. */
    private static long wrapped(long x) {
        long product = x * 1103515245L + 12345L;
        return (int) (product & 0xFFFFFFFFL);
    }

    /** "(each, if it can be)" */
    private static void drawnDeedsThatCannotBe() {
        // Seed 0 grows the root at first, and with 20 blocks it does not.
        FinalLinks full = Check.withChain("voter a 1;" + Texts.blocks(20));
        Check.row("it can not grow", new long[] {full.drawn(1, 0), full.count(1), full.undo()},
                0, 20, -1);
        FinalLinks room = Check.withChain("voter a 1;" + Texts.blocks(19));
        Check.row("it can grow", new long[] {room.drawn(1, 0), room.count(1), room.undo()},
                1, 20, 0);
        // One block alone: the first look is done, each later one is that look, no vote can be.
        FinalLinks one = Check.withChain("voter a 1;block r;");
        int seed = 0;
        while ((next(seed) >>> 8) % 8 != 1) {
            seed++;
        }
        Check.row("it looks", new long[] {one.drawn(1, seed), one.voter(0, 2), one.drawn(1, seed),
            one.undo(), one.undo()}, 1, 0, 0, 0, -1);
        while ((next(seed) >>> 8) % 8 != 2) {
            seed++;
        }
        Check.row("it looks by 2, too", new long[] {one.drawn(1, seed), one.voter(0, 2)}, 1, 0);
        for (int sort = 3; sort < 8; sort++) {
            while ((next(seed) >>> 8) % 8 != sort) {
                seed++;
            }
            Check.row("it can not vote, by " + sort, new long[] {one.drawn(1, seed), one.now(3)},
                    0, 0);
        }
    }

    /** "A new CHAIN: no VOTES, no LOOKS, no SENTENCE, nothing that can be undone; images stay" */
    private static void newChain() {
        FinalLinks x = Check.withChain(TWO_WAYS);
        Check.sentence(x, "leaf");
        x.votes(0, 0, 1);
        x.looks(0, 1);
        x.grows(6);
        x.image(0);
        x.need(0, 1);
        x.way(2);
        x.tag(0);
        Check.book(x, 0, "grow r;");
        Check.due("the same chain anew", Check.chain(x, TWO_WAYS), 10);
        Check.row("no votes", new long[] {x.now(3), x.vote(0, 0), x.voter(0, 1),
            x.link(0, 1, 0)}, 0, -1, 0, 0);
        Check.row("no looks", new long[] {x.voter(0, 2), x.block(1, 7)}, -1, 0);
        Check.row("no sentence", new long[] {x.said(-1), x.said(0)}, -1, -1);
        Check.row("none that grew", new long[] {x.count(1), x.block(6, 3)}, 7, 0);
        Check.due("nothing can be undone", x.undo(), -1);
        Check.row("what was told last stays", new long[] {x.needed(), x.wayFrom(), x.byteAt(0),
            x.told(1)}, 2, 0, 'a', 1);
        Check.due("images stay", x.restore(0), true);
        Check.row("as kept", new long[] {x.now(3), x.voter(0, 2), x.count(1), x.said(-1)},
                1, 1, 8, 2);
        Check.row("the way is there", new long[] {x.chosen(0), x.now(8), x.block(1, 7)}, 0, 5, 1);
        Check.chain(x, "voter a 1;block r;");
        Check.row("another way at once", new long[] {x.chosen(0), x.chosen(1), x.now(8)},
                0, -1, 0);
        Check.chain(x, "voter a 5;voter b 1;block r;block p on r;");
        Check.row("no weight of a voter that was", new long[] {x.link(0, 1, 2), x.link(0, 1, 4),
            x.need(0, 1), x.needed(), x.weight(0, 2), x.voter(2, 0)}, 6, 6, 1, 1, -1, -1);
        x.votes(1, 0, 1);
        Check.row("by those that are", new long[] {x.guilt(0), x.guilt(1), x.link(0, 1, 1)},
                0, 1, 1);
        Check.chain(x, "voter a 1;block r;block p on r;block q on r;");
        offend(x, 0);
        Check.row("guilt by those that are", guiltOf(x), 1, 1);
        Check.chain(x, "");
        Check.row("no way at once", new long[] {x.chosen(0), x.now(7), x.now(8), x.now(0)},
                -1, -1, -1, 0);
        Check.due("an image is nothing that was kept at the other place", x.restore(1), false);
    }

    /** "-1 less the place of a FAULT: it stays" */
    private static void chainWithAFault() {
        FinalLinks x = Check.withChain(TWO_WAYS);
        Check.sentence(x, "leaf");
        x.votes(0, 0, 1);
        x.looks(0, 1);
        long[] before = Snapshot.of(x);
        Check.due("a fault", Check.chain(x, "epoch 2;voter z 9;block y;block w on"), -1 - 36);
        long[] behind = Snapshot.of(x);
        behind[Snapshot.FAULT] = before[Snapshot.FAULT];
        Check.row("all stays", behind, before);
        Check.row("it can be undone", new long[] {x.undo(), x.undo(), x.undo()}, 1, 0, -1);
    }

    /** "A call that throws changes nothing" */
    private static void throwingChangesNothing() {
        FinalLinks x = Check.withChain("voter a 0;block r;block p on r;block q on r;");
        Check.sentence(x, "leaf or number = 0");
        offend(x, 0);
        x.looks(0, 1);
        x.need(0, 1);
        x.way(0);
        x.tag(1);
        Check.book(x, 0, "grow r;grow r;");
        Check.chain(x, "!");
        Check.put(x, "on the tape");
        long[] before = Snapshot.of(x);
        Check.throwing("block", () -> x.block(3, 0));
        Check.throwing("block, another what", () -> x.block(0, 8));
        Check.throwing("link", () -> x.link(1, 0, 0));
        Check.throwing("link, another what", () -> x.link(0, 1, 6));
        Check.throwing("guilt", () -> x.guilt(0));
        Check.throwing("guilt, another what", () -> x.guilt(2));
        Check.throwing("mean, another what", () -> x.mean(2));
        Check.row("nothing has changed", Snapshot.of(x), before);
        Check.row("all can be undone", new long[] {x.undo(), x.undo(), x.undo(), x.undo()},
                2, 1, 0, -1);
    }
}
