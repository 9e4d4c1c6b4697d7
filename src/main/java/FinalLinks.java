import java.util.NoSuchElementException;

/**
 * Finality over a tree of blocks, as the document's promises tell it. Every row is made in a
 * constructor and used again: no call makes an object, but for an exception that it throws.
 */
public final class FinalLinks {
    public static final int NONE = -1;

    private static final int MOST_VOTERS = 8;
    private static final int MOST_BLOCKS = 20;
    private static final int MOST_VOTES = 48;
    private static final int MOST_TAPE_BYTES = 940;
    private static final int MOST_TAG_BYTES = 32;
    private static final int FEED_BYTES = 20;
    private static final int MOST_DEEDS = 60;
    private static final int MOST_SEEDS = 20;
    private static final int DEEDS_OF_ODDS = 12;
    private static final int IMAGES = 2;
    private static final int OTHER_LIVES = -1000;

    private final Bytes tape;
    private final Bytes tagBytes;
    private final Tokens tokens;
    private final State state;
    private final Chain tree;
    private final Votes acts;
    private final Finality finality;
    private final Needs needs;
    private final Book lines;
    private final Draws draws;
    private final History history;
    private final Chain draftChain;
    private final Sentence draftSentence;
    private final State[] images;
    private final boolean[] imageKept;
    private final int[] before;
    private int latestFault;

    public FinalLinks() {
        tape = new Bytes(MOST_TAPE_BYTES);
        tagBytes = new Bytes(MOST_TAG_BYTES);
        tokens = new Tokens(tape);
        state = new State();
        tree = state.tree;
        acts = state.acts;
        finality = new Finality(state);
        needs = new Needs(state, finality);
        lines = new Book();
        draws = new Draws();
        history = new History();
        draftChain = new Chain();
        draftSentence = new Sentence();
        images = new State[] {new State(), new State()};
        imageKept = new boolean[IMAGES];
        before = new int[State.MARK_LENGTH];
        latestFault = 0;
    }

    public int feed(int a, int b, int c, int d, int e) {
        if (tape.length + FEED_BYTES > MOST_TAPE_BYTES) {
            return NONE;
        }
        tape.putNumber(a);
        tape.putNumber(b);
        tape.putNumber(c);
        tape.putNumber(d);
        tape.putNumber(e);
        return tape.length;
    }

    public boolean end(int n) {
        return tape.cut(n);
    }

    public int chain() {
        int read = draftChain.readFrom(tokens);
        closeText();
        if (read == NONE) {
            return -1 - tokens.faultAt;
        }
        state.begin(draftChain);
        history.forget();
        return read;
    }

    public int fault() {
        return latestFault;
    }

    public int block(int b, int what) throws NoSuchElementException {
        if (!tree.hasBlock(b) || what < 0 || what > 7) {
            throw new NoSuchElementException();
        }
        finality.refresh();
        switch (what) {
            case 0:
                return tree.on[b];
            case 1:
                return tree.height[b];
            case 2:
                return tree.level[b];
            case 3:
                return tree.blocksOn(b);
            case 4:
                return tree.changed[b];
            case 5:
                return finality.just >> b & 1;
            case 6:
                return finality.finals >> b & 1;
            default:
                return finality.heft[b];
        }
    }

    public int ahead(int a, int b) {
        if (!tree.hasBlock(a) || !tree.hasBlock(b)) {
            return NONE;
        }
        return tree.isAhead(a, b) ? 1 : 0;
    }

    public int fork(int a, int b) {
        if (!tree.hasBlock(a) || !tree.hasBlock(b)) {
            return NONE;
        }
        return tree.lastShared(a, b);
    }

    public int weight(int b, int v) {
        if (!tree.isPoint(b) || !tree.hasVoter(v)) {
            return NONE;
        }
        return tree.weights[b][v];
    }

    public int voter(int v, int what) {
        if (!tree.hasVoter(v)) {
            return NONE;
        }
        switch (what) {
            case 0:
                return tree.told[v];
            case 1:
                return acts.votesOf(v);
            case 2:
                return acts.looks[v];
            case 3:
                finality.refresh();
                return finality.offenders >> v & 1;
            default:
                return NONE;
        }
    }

    public int vote(int k, int what) {
        if (!acts.hasVote(k)) {
            return NONE;
        }
        switch (what) {
            case 0:
                return acts.voter[k];
            case 1:
                return acts.source[k];
            case 2:
                return acts.target[k];
            default:
                return NONE;
        }
    }

    public int link(int s, int t, int what) throws NoSuchElementException {
        if (!tree.isLink(s, t) || what < 0 || what > 5) {
            throw new NoSuchElementException();
        }
        finality.refresh();
        int voters = finality.linkVoters[s][t];
        switch (what) {
            case 0:
                return voters;
            case 1:
                return tree.sumOf(tree.foreOf(t), voters);
            case 2:
                return tree.sumOf(tree.foreOf(t), Chain.ALL_VOTERS);
            case 3:
                return tree.sumOf(tree.rearOf(t), voters);
            case 4:
                return tree.sumOf(tree.rearOf(t), Chain.ALL_VOTERS);
            default:
                return tree.countsWith(t, voters) ? 1 : 0;
        }
    }

    public int votes(int v, int s, int t) {
        if (!tree.hasVoter(v) || !tree.hasBlock(s) || !tree.hasBlock(t)) {
            return NONE;
        }
        state.mark(before);
        return keepIfDone(state.tryVote(v, s, t));
    }

    public int looks(int v, int b) {
        if (!tree.hasVoter(v) || !tree.hasBlock(b)) {
            return NONE;
        }
        state.mark(before);
        return keepIfDone(state.tryLook(v, b));
    }

    public int grows(int b) {
        if (!tree.hasBlock(b)) {
            return NONE;
        }
        state.mark(before);
        return keepIfDone(state.tryGrow(b));
    }

    public int undo() {
        return history.takeBack(state);
    }

    public int offends(int v, int s, int t) {
        if (!tree.hasVoter(v) || !tree.isLink(s, t) || acts.holds(v, s, t)) {
            return NONE;
        }
        return acts.offenceOf(v, s, t);
    }

    public int evidence(int k, int what) {
        if (k < 0 || what < 0 || what > 2) {
            return NONE;
        }
        return acts.pairPart(k, what);
    }

    public int now(int what) {
        finality.refresh();
        switch (what) {
            case 0:
                return finality.just;
            case 1:
                return finality.finals;
            case 2:
                return finality.offenders;
            case 3:
                return acts.count;
            case 4:
                return finality.votedLinks;
            case 5:
                return finality.countingLinks;
            case 6:
                return finality.pairs;
            case 7:
                return finality.base;
            case 8:
                return finality.choice();
            default:
                return NONE;
        }
    }

    public int chosen(int k) {
        finality.refresh();
        return k >= 0 && k < finality.wayLength ? finality.way[k] : NONE;
    }

    public int need(int s, int t) {
        finality.refresh();
        return tree.isLink(s, t) ? needs.askNeed(s, t) : NONE;
    }

    public int needed() {
        return needs.latestVoters;
    }

    public int way(int t) {
        finality.refresh();
        return tree.isPoint(t) ? needs.askWay(t) : NONE;
    }

    public int wayFrom() {
        return needs.latestSource;
    }

    public int clash() {
        finality.refresh();
        return finality.clashFirst() == NONE ? 0 : 1;
    }

    public int clashAt(int k) {
        finality.refresh();
        int first = finality.clashFirst();
        if (first == NONE || k < 0 || k > 1) {
            return NONE;
        }
        return k == 0 ? first : finality.clashWith(first);
    }

    public int guilt(int what) throws NoSuchElementException {
        int all = tree.sumOf(tree.told, Chain.ALL_VOTERS);
        if (all == 0 || what < 0 || what > 1) {
            throw new NoSuchElementException();
        }
        finality.refresh();
        return partOfFraction(tree.sumOf(tree.told, finality.offenders), all, what);
    }

    public int mean(int what) throws NoSuchElementException {
        if (tree.blocks == 0 || what < 0 || what > 1) {
            throw new NoSuchElementException();
        }
        int heights = 0;
        int leaves = 0;
        for (int b = 0; b < tree.blocks; b++) {
            if (tree.blocksOn(b) == 0) {
                heights += tree.height[b];
                leaves++;
            }
        }
        return partOfFraction(heights, leaves, what);
    }

    public int tag(int k) {
        if (!acts.hasVote(k)) {
            return NONE;
        }
        tagBytes.length = 0;
        tagBytes.putName(tree.voterNames[acts.voter[k]]);
        tagBytes.putText(" from ");
        tagBytes.putDigits(acts.source[k]);
        tagBytes.putText(" to ");
        tagBytes.putDigits(acts.target[k]);
        return tagBytes.length;
    }

    public int byteAt(int i) {
        return i >= 0 && i < tagBytes.length ? tagBytes.row[i] : NONE;
    }

    public int drawn(int n, int seed) {
        if (n < 1 || n > MOST_DEEDS) {
            return NONE;
        }
        state.mark(before);
        int done = draws.doDeeds(state, n, seed);
        if (done > 0) {
            history.keep(before);
        }
        return done;
    }

    public int odds(int b, int n, int seed) {
        if (!tree.hasBlock(b) || n < 1 || n > MOST_SEEDS) {
            return NONE;
        }
        state.mark(before);
        int times = 0;
        for (int i = 0; i < n; i++) {
            draws.doDeeds(state, DEEDS_OF_ODDS, seed + i);
            finality.refresh();
            times += finality.wayBits >> b & 1;
            state.rewind(before);
        }
        return times;
    }

    public int book(int lives) {
        if (lives != 0 && lives != 1) {
            return OTHER_LIVES;
        }
        int read = lines.readFrom(tokens, tree);
        closeText();
        if (read == NONE) {
            return -2 - tokens.faultAt;
        }
        state.mark(before);
        int done = lines.live(state);
        finality.refresh();
        lines.tell(finality);
        if (lives == 0) {
            state.rewind(before);
        } else if (done > 0) {
            history.keep(before);
        }
        return done < read ? done : NONE;
    }

    public int told(int what) {
        return what >= 0 && what < Book.TOLD_LENGTH ? lines.latest[what] : NONE;
    }

    public int sentence() {
        int ones = draftSentence.readFrom(tokens, tree);
        closeText();
        if (ones == NONE) {
            return -1 - tokens.faultAt;
        }
        state.sentence.copyFrom(draftSentence);
        return ones;
    }

    public int said(int k) {
        if (state.sentence.ones == 0 || k < NONE) {
            return NONE;
        }
        finality.refresh();
        int blocks = state.sentence.blocksSaid(tree, finality);
        return k == NONE ? Integer.bitCount(blocks) : placeOfBit(blocks, k);
    }

    public boolean image(int k) {
        if (k < 0 || k >= IMAGES) {
            return false;
        }
        images[k].copyFrom(state);
        imageKept[k] = true;
        return true;
    }

    public boolean restore(int k) {
        if (k < 0 || k >= IMAGES || !imageKept[k]) {
            return false;
        }
        state.copyFrom(images[k]);
        history.forget();
        return true;
    }

    public int count(int what) {
        switch (what) {
            case 0:
                return tree.voters;
            case 1:
                return tree.blocks;
            case 2:
                return tree.epoch;
            case 3:
                return tree.countPoints();
            case 4:
                return tape.length;
            default:
                return NONE;
        }
    }

    /** A text that was read leaves the tape empty and tells its FAULT, whatever it was. */
    private void closeText() {
        tape.length = 0;
        latestFault = tokens.fault;
    }

    /** Keeps the mark that was made before an act, if nothing spoke against the act. */
    private int keepIfDone(int why) {
        if (why == 0) {
            history.keep(before);
        }
        return why;
    }

    private static int partOfFraction(int above, int below, int what) {
        int divisor = greatestDivisor(above, below);
        int part = what == 0 ? above : below;
        return divisor > 0 ? part / divisor : part;
    }

    private static int greatestDivisor(int a, int b) {
        int great = a;
        int small = b;
        // Each two rounds halve the numbers, so 64 are more than any two ints need.
        for (int round = 0; round < 64 && small != 0; round++) {
            int rest = great % small;
            great = small;
            small = rest;
        }
        return great;
    }

    /** The number of the k-th bit that is set, from the lowest; NONE, if there are not so many. */
    private static int placeOfBit(int bits, int k) {
        int seen = 0;
        for (int place = 0; place < MOST_BLOCKS; place++) {
            if ((bits >> place & 1) == 1) {
                if (seen == k) {
                    return place;
                }
                seen++;
            }
        }
        return NONE;
    }

    /** Bytes in a row with a most: the tape, and the latest TAG. */
    private static final class Bytes {
        final int[] row;
        int length;

        Bytes(int most) {
            row = new int[Math.max(0, most)];
            length = 0;
        }

        void put(int value) {
            if (length >= 0 && length < row.length) {
                row[length] = value & 255;
                length++;
            }
        }

        void putNumber(int value) {
            put(value >>> 24);
            put(value >>> 16);
            put(value >>> 8);
            put(value);
        }

        void putName(long name) {
            for (int shift = 48; shift >= 0; shift -= 8) {
                int letter = (int) (name >>> shift) & 255;
                if (letter != 0) {
                    put(letter);
                }
            }
        }

        void putText(String text) {
            for (int i = 0; i < text.length(); i++) {
                put(text.charAt(i));
            }
        }

        /** BLOCKS have numbers of two digits at most. */
        void putDigits(int number) {
            if (number > 9) {
                put('0' + number / 10);
            }
            put('0' + number % 10);
        }

        boolean cut(int n) {
            if (n < 0 || n > length) {
                return false;
            }
            length = n;
            return true;
        }
    }

    /**
     * The TOKENS of the tape, one at a time. The TOKEN at hand is looked at until it is taken; the
     * first that is refused is the FAULT, and readers stop there.
     */
    private static final class Tokens {
        static final int UNFIT = 1;
        static final int WRONG_NUMBER = 2;
        static final int WRONG_NAME = 3;
        static final int TOO_MANY = 4;

        static final int END = 0;
        static final int BAD = 1;
        static final int NAME = 2;
        static final int DIGITS = 3;
        // Signs are their own kinds: ( ) ; < = > are 40 to 62. Told words come behind them.
        static final int FIRST_WORD = 64;
        static final int EPOCH = 64;
        static final int VOTER = 65;
        static final int BLOCK = 66;
        static final int ON = 67;
        static final int CHANGE = 68;
        static final int VOTE = 69;
        static final int LOOK = 70;
        static final int GROW = 71;
        static final int OR = 72;
        static final int AND = 73;
        static final int NOT = 74;
        static final int LEAF = 75;
        static final int POINT = 76;
        static final int JUST = 77;
        static final int FINAL = 78;
        static final int CHOSEN = 79;
        static final int UNDER = 80;
        static final int HEIGHT = 81;
        static final int LEVEL = 82;
        static final int HEFT = 83;
        static final int NUMBER = 84;

        // A word is a long of its letters' bytes, so that two words are compared at one stroke.
        private static final long[] WORDS = {
            0x65706F6368L, // epoch
            0x766F746572L, // voter
            0x626C6F636BL, // block
            0x6F6EL, // on
            0x6368616E6765L, // change
            0x766F7465L, // vote
            0x6C6F6F6BL, // look
            0x67726F77L, // grow
            0x6F72L, // or
            0x616E64L, // and
            0x6E6F74L, // not
            0x6C656166L, // leaf
            0x706F696E74L, // point
            0x6A757374L, // just
            0x66696E616CL, // final
            0x63686F73656EL, // chosen
            0x756E646572L, // under
            0x686569676874L, // height
            0x6C6576656CL, // level
            0x68656674L, // heft
            0x6E756D626572L, // number
        };

        private static final int MOST_LETTERS = 7;
        private static final int MOST_DIGITS = 3;

        int kind;
        long name;
        int fault;
        int faultAt;
        private final Bytes tape;
        private int place;
        private int end;
        private boolean tooLong;
        private int at;
        private int letters;
        private int digits;
        private int number;

        Tokens(Bytes tape) {
            this.tape = tape;
        }

        /** Begins with the first TOKEN of a text that may have so many bytes. */
        void open(int mostBytes) {
            place = 0;
            fault = 0;
            faultAt = 0;
            tooLong = tape.length > mostBytes;
            end = Math.min(tape.length, mostBytes);
            advance();
        }

        void advance() {
            while (place < end && isBlank(tape.row[place])) {
                place++;
            }
            if (place >= end) {
                at = end;
                // A text that goes on behind its most bytes has no end that could come.
                kind = tooLong ? BAD : END;
                return;
            }
            at = place;
            readRun();
            if (letters + digits == 0) {
                int sign = tape.row[place];
                kind = isSign(sign) ? sign : BAD;
                place++;
            } else if (digits == 0 && letters <= MOST_LETTERS) {
                kind = kindOfWord(name);
            } else {
                kind = letters == 0 && digits <= MOST_DIGITS ? DIGITS : BAD;
            }
        }

        /** A run goes on to its own end, behind the most bytes of the text, too. */
        private void readRun() {
            letters = 0;
            digits = 0;
            name = 0;
            number = 0;
            for (; place < tape.length; place++) {
                int sign = tape.row[place];
                if (sign >= 'a' && sign <= 'z') {
                    letters++;
                    name = name << 8 | sign;
                } else if (sign >= '0' && sign <= '9') {
                    digits++;
                    number = number * 10 + (sign - '0');
                } else {
                    break;
                }
            }
        }

        private static int kindOfWord(long word) {
            for (int i = 0; i < WORDS.length; i++) {
                if (WORDS[i] == word) {
                    return FIRST_WORD + i;
                }
            }
            return NAME;
        }

        private static boolean isBlank(int sign) {
            return sign == 32 || sign == 10;
        }

        private static boolean isSign(int sign) {
            return sign >= ';' && sign <= '>' || sign == '(' || sign == ')';
        }

        /** The TOKEN at hand is the FAULT; answers false, for readers to hand on. */
        boolean refuse(int why) {
            fault = why;
            faultAt = at;
            return false;
        }

        boolean take(int wanted) {
            if (kind != wanted) {
                return refuse(UNFIT);
            }
            advance();
            return true;
        }

        /** A NUMBER from least to most; NONE with a FAULT. */
        int takeNumber(int least, int most) {
            if (kind != DIGITS) {
                refuse(UNFIT);
                return NONE;
            }
            if (number < least || number > most) {
                refuse(WRONG_NUMBER);
                return NONE;
            }
            int taken = number;
            advance();
            return taken;
        }

        /** A NAME that nothing has yet; 0, which is no name, with a FAULT. */
        long takeNewName(boolean isTold) {
            if (kind != NAME || isTold) {
                refuse(kind == NAME ? WRONG_NAME : UNFIT);
                return 0;
            }
            long taken = name;
            advance();
            return taken;
        }

        /** A NAME that was looked up: the number that was found for it; NONE with a FAULT. */
        int takeNamed(int found) {
            if (kind != NAME || found == NONE) {
                refuse(kind == NAME ? WRONG_NAME : UNFIT);
                return NONE;
            }
            advance();
            return found;
        }
    }

    /** VOTERS and BLOCKS. A BLOCK comes behind that on which it is, so numbers rise along a way. */
    private static final class Chain {
        static final int ALL_VOTERS = (1 << MOST_VOTERS) - 1;
        private static final int MOST_BYTES = 900;
        private static final int MOST_EPOCH = 4;
        private static final int MOST_WEIGHT = 9;

        int epoch;
        int voters;
        int blocks;
        final long[] voterNames;
        final int[] told;
        final long[] blockNames;
        final int[] on;
        final int[] aheadBits;
        final int[] height;
        final int[] level;
        final int[] changed;
        final int[][] weights;

        Chain() {
            epoch = 1;
            voters = 0;
            blocks = 0;
            voterNames = new long[MOST_VOTERS];
            told = new int[MOST_VOTERS];
            blockNames = new long[MOST_BLOCKS];
            on = new int[MOST_BLOCKS];
            aheadBits = new int[MOST_BLOCKS];
            height = new int[MOST_BLOCKS];
            level = new int[MOST_BLOCKS];
            changed = new int[MOST_BLOCKS];
            weights = new int[MOST_BLOCKS][MOST_VOTERS];
        }

        void copyFrom(Chain other) {
            epoch = other.epoch;
            voters = other.voters;
            blocks = other.blocks;
            System.arraycopy(other.voterNames, 0, voterNames, 0, MOST_VOTERS);
            System.arraycopy(other.told, 0, told, 0, MOST_VOTERS);
            System.arraycopy(other.blockNames, 0, blockNames, 0, MOST_BLOCKS);
            System.arraycopy(other.on, 0, on, 0, MOST_BLOCKS);
            System.arraycopy(other.aheadBits, 0, aheadBits, 0, MOST_BLOCKS);
            System.arraycopy(other.height, 0, height, 0, MOST_BLOCKS);
            System.arraycopy(other.level, 0, level, 0, MOST_BLOCKS);
            System.arraycopy(other.changed, 0, changed, 0, MOST_BLOCKS);
            for (int b = 0; b < MOST_BLOCKS; b++) {
                System.arraycopy(other.weights[b], 0, weights[b], 0, MOST_VOTERS);
            }
        }

        /** How many LINES the tape has as a CHAIN, which this is then; NONE with a FAULT. */
        int readFrom(Tokens in) {
            epoch = 1;
            voters = 0;
            blocks = 0;
            in.open(MOST_BYTES);
            for (int read = 0; read < MOST_BYTES; read++) {
                if (in.kind == Tokens.END) {
                    return read;
                }
                if (!readLine(in, read)) {
                    return NONE;
                }
            }
            return NONE;
        }

        private boolean readLine(Tokens in, int linesAhead) {
            boolean fits;
            switch (in.kind) {
                case Tokens.EPOCH:
                    fits = linesAhead == 0 ? readEpoch(in) : in.refuse(Tokens.WRONG_NAME);
                    break;
                case Tokens.VOTER:
                    fits = voters < MOST_VOTERS ? readVoter(in) : in.refuse(Tokens.TOO_MANY);
                    break;
                case Tokens.BLOCK:
                    fits = blocks < MOST_BLOCKS ? readBlock(in) : in.refuse(Tokens.TOO_MANY);
                    break;
                default:
                    fits = in.refuse(Tokens.UNFIT);
                    break;
            }
            return fits && in.take(';');
        }

        private boolean readEpoch(Tokens in) {
            in.advance();
            int read = in.takeNumber(1, MOST_EPOCH);
            if (read == NONE) {
                return false;
            }
            epoch = read;
            return true;
        }

        private boolean readVoter(Tokens in) {
            in.advance();
            long name = in.takeNewName(hasName(in.name));
            if (name == 0) {
                return false;
            }
            int weight = in.takeNumber(0, MOST_WEIGHT);
            if (weight == NONE) {
                return false;
            }
            addVoter(name, weight);
            return true;
        }

        private boolean readBlock(Tokens in) {
            in.advance();
            long name = in.takeNewName(hasName(in.name));
            if (name == 0) {
                return false;
            }
            int below = NONE;
            if (blocks > 0) {
                below = in.take(Tokens.ON) ? in.takeNamed(blockNamed(in.name)) : NONE;
                if (below == NONE) {
                    return false;
                }
            }
            int changes = NONE;
            int weight = NONE;
            if (in.kind == Tokens.CHANGE) {
                in.advance();
                changes = in.takeNamed(voterNamed(in.name));
                weight = changes == NONE ? NONE : in.takeNumber(0, MOST_WEIGHT);
                if (weight == NONE) {
                    return false;
                }
            }
            addBlock(name, below, changes, weight);
            return true;
        }

        /** A VOTER that is told behind some BLOCKS has its WEIGHT by those, too. */
        private void addVoter(long name, int weight) {
            if (voters >= MOST_VOTERS) {
                return;
            }
            voterNames[voters] = name;
            told[voters] = weight;
            for (int b = 0; b < MOST_BLOCKS; b++) {
                weights[b][voters] = weight;
            }
            voters++;
        }

        void addBlock(long name, int below, int changes, int weight) {
            if (blocks >= MOST_BLOCKS) {
                return;
            }
            int b = blocks;
            boolean isRoot = below < 0 || below >= b;
            blockNames[b] = name;
            on[b] = isRoot ? NONE : below;
            aheadBits[b] = isRoot ? 0 : aheadBits[below] | 1 << below;
            height[b] = isRoot ? 0 : height[below] + 1;
            level[b] = epoch > 0 && height[b] % epoch == 0 ? height[b] / epoch : NONE;
            System.arraycopy(isRoot ? told : weights[below], 0, weights[b], 0, MOST_VOTERS);
            changed[b] = changes;
            if (changes >= 0 && changes < voters) {
                weights[b][changes] = weight;
            }
            blocks++;
        }

        boolean hasVoter(int v) {
            return v >= 0 && v < voters;
        }

        boolean hasBlock(int b) {
            return b >= 0 && b < blocks;
        }

        boolean isPoint(int b) {
            return hasBlock(b) && level[b] != NONE;
        }

        boolean isLink(int s, int t) {
            return isPoint(s) && isPoint(t) && isAhead(s, t);
        }

        boolean isAhead(int a, int b) {
            return (aheadBits[b] >> a & 1) == 1;
        }

        /** Numbers rise along a way, so the last BLOCK of two ways is the greatest of both. */
        int lastShared(int a, int b) {
            int shared = (aheadBits[a] | 1 << a) & (aheadBits[b] | 1 << b);
            return 31 - Integer.numberOfLeadingZeros(shared);
        }

        int blocksOn(int b) {
            int bits = 0;
            for (int other = b + 1; other < blocks; other++) {
                if (on[other] == b) {
                    bits |= 1 << other;
                }
            }
            return bits;
        }

        int countPoints() {
            int points = 0;
            for (int b = 0; b < blocks; b++) {
                if (level[b] != NONE) {
                    points++;
                }
            }
            return points;
        }

        private boolean hasName(long name) {
            return voterNamed(name) != NONE || blockNamed(name) != NONE;
        }

        int voterNamed(long name) {
            for (int v = 0; v < voters; v++) {
                if (voterNames[v] == name) {
                    return v;
                }
            }
            return NONE;
        }

        int blockNamed(long name) {
            for (int b = 0; b < blocks; b++) {
                if (blockNames[b] == name) {
                    return b;
                }
            }
            return NONE;
        }

        int[] foreOf(int t) {
            return weightsAhead(t, level[t] - 1);
        }

        int[] rearOf(int t) {
            return weightsAhead(t, level[t] - 2);
        }

        /** WEIGHTS of the POINT of a LEVEL that is AHEAD of t; as told, if there is none. */
        private int[] weightsAhead(int t, int wantedLevel) {
            if (wantedLevel >= 0) {
                for (int b = 0; b < t; b++) {
                    if (level[b] == wantedLevel && isAhead(b, t)) {
                        return weights[b];
                    }
                }
            }
            return told;
        }

        int sumOf(int[] row, int voterBits) {
            int sum = 0;
            for (int v = 0; v < voters; v++) {
                if ((voterBits >> v & 1) == 1) {
                    sum += row[v];
                }
            }
            return sum;
        }

        /** Whether a LINK to t would COUNT with these VOTERS. */
        boolean countsWith(int t, int voterBits) {
            return hasTwoThirds(foreOf(t), voterBits) && hasTwoThirds(rearOf(t), voterBits);
        }

        private boolean hasTwoThirds(int[] row, int voterBits) {
            int all = sumOf(row, ALL_VOTERS);
            return all > 0 && 3 * sumOf(row, voterBits) >= 2 * all;
        }
    }

    /** VOTES and LOOKS over the VOTERS and BLOCKS of one CHAIN. */
    private static final class Votes {
        int count;
        final int[] voter;
        final int[] source;
        final int[] target;
        final int[] looks;
        private final Chain tree;

        Votes(Chain tree) {
            this.tree = tree;
            count = 0;
            voter = new int[MOST_VOTES];
            source = new int[MOST_VOTES];
            target = new int[MOST_VOTES];
            looks = new int[MOST_VOTERS];
        }

        void clear() {
            count = 0;
            for (int v = 0; v < MOST_VOTERS; v++) {
                looks[v] = NONE;
            }
        }

        void copyFrom(Votes other) {
            count = other.count;
            System.arraycopy(other.voter, 0, voter, 0, MOST_VOTES);
            System.arraycopy(other.source, 0, source, 0, MOST_VOTES);
            System.arraycopy(other.target, 0, target, 0, MOST_VOTES);
            System.arraycopy(other.looks, 0, looks, 0, MOST_VOTERS);
        }

        boolean hasVote(int k) {
            return k >= 0 && k < count;
        }

        int votesOf(int v) {
            int sum = 0;
            for (int k = 0; k < count; k++) {
                if (voter[k] == v) {
                    sum++;
                }
            }
            return sum;
        }

        boolean holds(int v, int s, int t) {
            for (int k = 0; k < count; k++) {
                if (voter[k] == v && source[k] == s && target[k] == t) {
                    return true;
                }
            }
            return false;
        }

        int whyNotVote(int v, int s, int t) {
            if (!tree.isPoint(s) || !tree.isPoint(t)) {
                return 1;
            }
            if (!tree.isAhead(s, t)) {
                return 2;
            }
            if (holds(v, s, t)) {
                return 3;
            }
            return count >= MOST_VOTES ? 4 : 0;
        }

        void add(int v, int s, int t) {
            if (count < MOST_VOTES) {
                voter[count] = v;
                source[count] = s;
                target[count] = t;
                count++;
            }
        }

        /** How a VOTE of v from s to t would OFFEND with those of v: the least; 0 not. */
        int offenceOf(int v, int s, int t) {
            int least = 0;
            for (int k = 0; k < count; k++) {
                if (voter[k] == v) {
                    int how = offenceWith(k, s, t);
                    if (how != 0 && (least == 0 || how < least)) {
                        least = how;
                    }
                }
            }
            return least;
        }

        /** How two VOTES of one VOTER OFFEND: the k-th, and another one from s to t. */
        private int offenceWith(int k, int s, int t) {
            int sources = tree.level[source[k]] - tree.level[s];
            int targets = tree.level[target[k]] - tree.level[t];
            if (targets == 0) {
                return 1;
            }
            return sources < 0 && targets > 0 || sources > 0 && targets < 0 ? 2 : 0;
        }

        /** How the VOTES i and k OFFEND one another; 0 not, or of two VOTERS. */
        int offenceBetween(int i, int k) {
            return voter[i] == voter[k] ? offenceWith(i, source[k], target[k]) : 0;
        }

        /** Of the wanted pair of VOTES that OFFEND: 0 the first, 1 the second, else how. */
        int pairPart(int wanted, int what) {
            int seen = 0;
            for (int i = 0; i < count; i++) {
                for (int k = i + 1; k < count; k++) {
                    int how = offenceBetween(i, k);
                    if (how != 0 && seen == wanted) {
                        return what == 0 ? i : what == 1 ? k : how;
                    }
                    seen += how != 0 ? 1 : 0;
                }
            }
            return NONE;
        }
    }

    /**
     * All that an image keeps. VOTES and BLOCKS are only ever added behind the others, so how many
     * there were, and the LOOKS, are enough of a mark to go back to.
     */
    private static final class State {
        static final int MARK_LENGTH = 2 + MOST_VOTERS;

        final Chain tree;
        final Votes acts;
        final Sentence sentence;
        boolean stale;

        State() {
            tree = new Chain();
            acts = new Votes(tree);
            acts.clear();
            sentence = new Sentence();
            stale = true;
        }

        void copyFrom(State other) {
            tree.copyFrom(other.tree);
            acts.copyFrom(other.acts);
            sentence.copyFrom(other.sentence);
            stale = true;
        }

        void begin(Chain newTree) {
            tree.copyFrom(newTree);
            acts.clear();
            sentence.clear();
            stale = true;
        }

        void mark(int[] row) {
            if (row.length >= MARK_LENGTH) {
                row[0] = acts.count;
                row[1] = tree.blocks;
                System.arraycopy(acts.looks, 0, row, 2, MOST_VOTERS);
            }
        }

        void rewind(int[] row) {
            if (row.length >= MARK_LENGTH) {
                acts.count = row[0];
                tree.blocks = row[1];
                System.arraycopy(row, 2, acts.looks, 0, MOST_VOTERS);
                stale = true;
            }
        }

        /** Votes, if nothing speaks against it: 0, or why not; the same for the others. */
        int tryVote(int v, int s, int t) {
            int why = acts.whyNotVote(v, s, t);
            if (why == 0) {
                acts.add(v, s, t);
                stale = true;
            }
            return why;
        }

        int tryLook(int v, int b) {
            if (acts.looks[v] == b) {
                return 1;
            }
            acts.looks[v] = b;
            stale = true;
            return 0;
        }

        int tryGrow(int b) {
            if (tree.blocks >= MOST_BLOCKS) {
                return 1;
            }
            tree.addBlock(0, b, NONE, NONE);
            stale = true;
            return 0;
        }
    }

    /** The marks of the latest acts, in a ring: the oldest gives way to a ninth. */
    private static final class History {
        private static final int MOST = 8;

        private final int[][] marks;
        private int oldest;
        private int kept;

        History() {
            marks = new int[MOST][State.MARK_LENGTH];
            oldest = 0;
            kept = 0;
        }

        void forget() {
            kept = 0;
        }

        void keep(int[] mark) {
            if (mark.length < State.MARK_LENGTH) {
                return;
            }
            System.arraycopy(mark, 0, marks[(oldest + kept) % MOST], 0, State.MARK_LENGTH);
            if (kept < MOST) {
                kept++;
            } else {
                oldest = (oldest + 1) % MOST;
            }
        }

        /** How many more acts can be undone; NONE, if there was none. */
        int takeBack(State state) {
            if (kept == 0) {
                return NONE;
            }
            kept--;
            state.rewind(marks[(oldest + kept) % MOST]);
            return kept;
        }
    }

    /** What follows from a state, worked out once for each change of it. */
    private static final class Finality {
        int just;
        int finals;
        int offenders;
        int pairs;
        int votedLinks;
        int countingLinks;
        int base;
        int wayLength;
        int wayBits;
        final int[] way;
        final int[] heft;
        final int[][] linkVoters;
        private final State state;
        private final Chain tree;
        private final Votes acts;

        Finality(State state) {
            this.state = state;
            tree = state.tree;
            acts = state.acts;
            base = NONE;
            way = new int[MOST_BLOCKS];
            heft = new int[MOST_BLOCKS];
            linkVoters = new int[MOST_BLOCKS][MOST_BLOCKS];
        }

        void refresh() {
            if (state.stale) {
                state.stale = false;
                findOffenders();
                gatherLinks();
                judgePoints();
                findBase();
                weighLooks();
                followHeft();
            }
        }

        private void findOffenders() {
            offenders = 0;
            pairs = 0;
            for (int i = 0; i < acts.count; i++) {
                for (int k = i + 1; k < acts.count; k++) {
                    if (acts.offenceBetween(i, k) != 0) {
                        offenders |= 1 << acts.voter[i];
                        pairs++;
                    }
                }
            }
        }

        private void gatherLinks() {
            votedLinks = 0;
            for (int s = 0; s < MOST_BLOCKS; s++) {
                for (int t = 0; t < MOST_BLOCKS; t++) {
                    linkVoters[s][t] = 0;
                }
            }
            for (int k = 0; k < acts.count; k++) {
                int s = acts.source[k];
                int t = acts.target[k];
                if (linkVoters[s][t] == 0) {
                    votedLinks++;
                }
                linkVoters[s][t] |= 1 << acts.voter[k];
            }
        }

        /** Sources come ahead of their targets by number, so one round over these is enough. */
        private void judgePoints() {
            just = tree.blocks > 0 ? 1 : 0;
            finals = just;
            countingLinks = 0;
            for (int t = 1; t < tree.blocks; t++) {
                for (int s = 0; s < t; s++) {
                    // No LINK COUNTS without VOTERS: all WEIGHTS must be above 0.
                    if (linkVoters[s][t] != 0 && tree.countsWith(t, linkVoters[s][t])) {
                        countingLinks++;
                        judgeLink(s, t);
                    }
                }
            }
        }

        private void judgeLink(int s, int t) {
            if ((just >> s & 1) == 1) {
                just |= 1 << t;
                if (tree.level[t] == tree.level[s] + 1) {
                    finals |= 1 << s;
                }
            }
        }

        private void findBase() {
            base = NONE;
            for (int b = 0; b < tree.blocks; b++) {
                boolean isJust = (just >> b & 1) == 1;
                if (isJust && (base == NONE || tree.level[b] > tree.level[base])) {
                    base = b;
                }
            }
        }

        private void weighLooks() {
            for (int b = 0; b < MOST_BLOCKS; b++) {
                heft[b] = 0;
            }
            if (base == NONE) {
                return;
            }
            for (int v = 0; v < tree.voters; v++) {
                int look = acts.looks[v];
                if (tree.hasBlock(look) && (offenders >> v & 1) == 0) {
                    addHeft(look, tree.weights[base][v]);
                }
            }
        }

        private void addHeft(int look, int weight) {
            heft[look] += weight;
            for (int b = 0; b < look; b++) {
                if (tree.isAhead(b, look)) {
                    heft[b] += weight;
                }
            }
        }

        private void followHeft() {
            wayLength = 0;
            wayBits = 0;
            int next = base;
            for (int step = 0; step < MOST_BLOCKS && next != NONE; step++) {
                way[step] = next;
                wayLength = step + 1;
                wayBits |= 1 << next;
                next = heaviestOn(next);
            }
        }

        private int heaviestOn(int b) {
            int heaviest = NONE;
            for (int other = b + 1; other < tree.blocks; other++) {
                if (tree.on[other] == b && (heaviest == NONE || heft[other] > heft[heaviest])) {
                    heaviest = other;
                }
            }
            return heaviest;
        }

        int choice() {
            return wayLength > 0 ? way[wayLength - 1] : NONE;
        }

        /** The first FINAL POINT with which another one clashes; NONE without a CLASH. */
        int clashFirst() {
            for (int b = 0; b < tree.blocks; b++) {
                if ((finals >> b & 1) == 1 && clashWith(b) != NONE) {
                    return b;
                }
            }
            return NONE;
        }

        /** The least FINAL POINT that is on no way with b; NONE, if there is none. */
        int clashWith(int b) {
            for (int other = 0; other < tree.blocks; other++) {
                boolean isFinal = (finals >> other & 1) == 1;
                if (isFinal && other != b && !tree.isAhead(other, b) && !tree.isAhead(b, other)) {
                    return other;
                }
            }
            return NONE;
        }
    }

    /** NEED of LINKS and WAY to POINTS, and what was told of them last. */
    private static final class Needs {
        int latestVoters;
        int latestSource;
        private int foundVoters;
        private final State state;
        private final Finality finality;

        Needs(State state, Finality finality) {
            this.state = state;
            this.finality = finality;
            latestVoters = NONE;
            latestSource = NONE;
            foundVoters = 0;
        }

        int askNeed(int s, int t) {
            int fewest = fewestVoters(s, t);
            if (fewest != NONE) {
                latestVoters = foundVoters;
            }
            return fewest;
        }

        int askWay(int t) {
            if ((finality.just >> t & 1) == 1) {
                latestSource = NONE;
                return 0;
            }
            int fewest = NONE;
            for (int s = 0; s < t; s++) {
                if ((finality.just >> s & 1) == 1 && state.tree.isAhead(s, t)) {
                    int found = fewestVoters(s, t);
                    if (found != NONE && (fewest == NONE || found < fewest)) {
                        fewest = found;
                        latestSource = s;
                    }
                }
            }
            return fewest;
        }

        /** Sets are tried by rising bits, so of like ones the first that is found stays. */
        private int fewestVoters(int s, int t) {
            int voters = finality.linkVoters[s][t];
            int free = freeVoters(s, t);
            int fewest = NONE;
            for (int more = 0; more <= Chain.ALL_VOTERS; more++) {
                boolean isLess = fewest == NONE || Integer.bitCount(more) < fewest;
                if ((more & ~free) == 0 && isLess && state.tree.countsWith(t, voters | more)) {
                    fewest = Integer.bitCount(more);
                    foundVoters = more;
                }
            }
            return fewest;
        }

        /** VOTERS who could give such a VOTE without being OFFENDERS, as bits. */
        private int freeVoters(int s, int t) {
            int taken = finality.linkVoters[s][t] | finality.offenders;
            int free = 0;
            for (int v = 0; v < state.tree.voters; v++) {
                if ((taken >> v & 1) == 0 && state.acts.offenceOf(v, s, t) == 0) {
                    free |= 1 << v;
                }
            }
            return free;
        }
    }

    /** DEEDS DRAWN by a seed. */
    private static final class Draws {
        private int x;

        Draws() {
            x = 0;
        }

        /** How many of so many DEEDS were done. */
        int doDeeds(State state, int deeds, int seed) {
            x = seed;
            int done = 0;
            for (int i = 0; i < deeds && state.tree.blocks > 0; i++) {
                if (doDeed(state) == 0) {
                    done++;
                }
            }
            return done;
        }

        private int doDeed(State state) {
            int sort = draw(8);
            int b = draw(state.tree.blocks);
            if (sort == 0) {
                return state.tryGrow(b);
            }
            if (state.tree.voters == 0) {
                return NONE;
            }
            int v = draw(state.tree.voters);
            if (sort <= 2) {
                return state.tryLook(v, b);
            }
            return state.tryVote(v, b, draw(state.tree.blocks));
        }

        private int draw(int n) {
            x = x * 1103515245 + 12345;
            return n > 0 ? (x >>> 8) % n : 0;
        }
    }

    /** A BOOK, and what the latest one that had no FAULT told. */
    private static final class Book {
        static final int TOLD_LENGTH = 4;
        private static final int MOST_BYTES = 400;
        private static final int MOST_LINES = 40;

        final int[] latest;
        private int count;
        private final int[] kinds;
        private final int[] voters;
        private final int[] blocks;
        private final int[] targets;

        Book() {
            latest = new int[] {NONE, NONE, NONE, NONE};
            count = 0;
            kinds = new int[MOST_LINES];
            voters = new int[MOST_LINES];
            blocks = new int[MOST_LINES];
            targets = new int[MOST_LINES];
        }

        /** How many LINES the tape has as a BOOK; NONE with a FAULT. */
        int readFrom(Tokens in, Chain tree) {
            count = 0;
            in.open(MOST_BYTES);
            for (int read = 0; read < MOST_BYTES; read++) {
                if (in.kind == Tokens.END) {
                    return read;
                }
                if (!readLine(in, tree)) {
                    return NONE;
                }
            }
            return NONE;
        }

        private boolean readLine(Tokens in, Chain tree) {
            int kind = in.kind;
            if (kind != Tokens.VOTE && kind != Tokens.LOOK && kind != Tokens.GROW) {
                return in.refuse(Tokens.UNFIT);
            }
            if (count >= MOST_LINES) {
                return in.refuse(Tokens.TOO_MANY);
            }
            in.advance();
            int v = NONE;
            if (kind != Tokens.GROW) {
                v = in.takeNamed(tree.voterNamed(in.name));
                if (v == NONE) {
                    return false;
                }
            }
            int b = in.takeNamed(tree.blockNamed(in.name));
            if (b == NONE) {
                return false;
            }
            int t = NONE;
            if (kind == Tokens.VOTE) {
                t = in.takeNamed(tree.blockNamed(in.name));
                if (t == NONE) {
                    return false;
                }
            }
            kinds[count] = kind;
            voters[count] = v;
            blocks[count] = b;
            targets[count] = t;
            count++;
            return in.take(';');
        }

        /** Lives the LINES up to one that is WRONG: how many were lived. */
        int live(State state) {
            int why = 0;
            int lived = 0;
            for (int line = 0; line < count && why == 0; line++) {
                why = liveLine(state, line);
                lived += why == 0 ? 1 : 0;
            }
            latest[0] = why;
            latest[1] = lived;
            return lived;
        }

        void tell(Finality finality) {
            latest[2] = finality.finals;
            latest[3] = finality.choice();
        }

        private int liveLine(State state, int line) {
            if (kinds[line] == Tokens.VOTE) {
                return state.tryVote(voters[line], blocks[line], targets[line]);
            }
            if (kinds[line] == Tokens.LOOK) {
                return state.tryLook(voters[line], blocks[line]) == 0 ? 0 : 11;
            }
            return state.tryGrow(blocks[line]) == 0 ? 0 : 21;
        }
    }

    /**
     * A SENTENCE as steps, each behind those that it joins. A step answers for all BLOCKS at once,
     * as bits; without ONES there is no SENTENCE.
     */
    private static final class Sentence {
        private static final int MOST_BYTES = 200;
        private static final int MOST_ONES = 20;
        private static final int MOST_WITHIN = 8;
        private static final int MOST_STEPS = 2 * MOST_ONES;
        private static final int MOST_NUMBER = 999;

        int ones;
        private int steps;
        private final int[] kinds;
        private final int[] signs;
        private final int[] values;
        private final int[] open;

        Sentence() {
            ones = 0;
            steps = 0;
            kinds = new int[MOST_STEPS];
            signs = new int[MOST_STEPS];
            values = new int[MOST_STEPS];
            open = new int[MOST_STEPS];
        }

        void clear() {
            ones = 0;
            steps = 0;
        }

        void copyFrom(Sentence other) {
            ones = other.ones;
            steps = other.steps;
            System.arraycopy(other.kinds, 0, kinds, 0, MOST_STEPS);
            System.arraycopy(other.signs, 0, signs, 0, MOST_STEPS);
            System.arraycopy(other.values, 0, values, 0, MOST_STEPS);
        }

        /** How many ONES the tape has as a SENTENCE, which this is then; NONE with a FAULT. */
        int readFrom(Tokens in, Chain tree) {
            clear();
            in.open(MOST_BYTES);
            return readCond(in, tree, 1) && in.take(Tokens.END) ? ones : NONE;
        }

        /** An 'or' is a step only behind the ALL at its right, so it waits until that has ended. */
        private boolean readCond(Tokens in, Chain tree, int depth) {
            boolean fits = readOne(in, tree, depth);
            boolean orWaits = false;
            for (int n = 0; n < MOST_ONES && fits && isJoint(in.kind); n++) {
                int joint = in.kind;
                if (joint == Tokens.OR) {
                    fits = !orWaits || addStep(Tokens.OR, 0, 0);
                    orWaits = true;
                }
                in.advance();
                fits = fits && readOne(in, tree, depth);
                if (joint == Tokens.AND) {
                    fits = fits && addStep(Tokens.AND, 0, 0);
                }
            }
            return fits && (!orWaits || addStep(Tokens.OR, 0, 0));
        }

        private static boolean isJoint(int kind) {
            return kind == Tokens.OR || kind == Tokens.AND;
        }

        private boolean readOne(Tokens in, Chain tree, int depth) {
            int first = in.kind;
            if (first != '(' && (first < Tokens.NOT || first > Tokens.NUMBER)) {
                return in.refuse(Tokens.UNFIT);
            }
            if (ones >= MOST_ONES || depth > MOST_WITHIN) {
                return in.refuse(Tokens.TOO_MANY);
            }
            ones++;
            in.advance();
            if (first == '(') {
                return readCond(in, tree, depth + 1) && in.take(')');
            }
            if (first == Tokens.NOT) {
                return readOne(in, tree, depth + 1) && addStep(Tokens.NOT, 0, 0);
            }
            if (first == Tokens.UNDER) {
                int b = in.takeNamed(tree.blockNamed(in.name));
                return b != NONE && addStep(Tokens.UNDER, 0, b);
            }
            return first < Tokens.HEIGHT ? addStep(first, 0, 0) : readMeasure(in, first);
        }

        private boolean readMeasure(Tokens in, int kind) {
            int sign = in.kind;
            if (sign < '<' || sign > '>') {
                return in.refuse(Tokens.UNFIT);
            }
            in.advance();
            int value = in.takeNumber(0, MOST_NUMBER);
            return value != NONE && addStep(kind, sign, value);
        }

        /** Twenty ONES are joined by nineteen words at most, so no step finds the rows full. */
        private boolean addStep(int kind, int sign, int value) {
            if (steps >= MOST_STEPS) {
                return false;
            }
            kinds[steps] = kind;
            signs[steps] = sign;
            values[steps] = value;
            steps++;
            return true;
        }

        /** The BLOCKS of which it may be said, as bits. */
        int blocksSaid(Chain tree, Finality finality) {
            int all = (1 << tree.blocks) - 1;
            int depth = 0;
            for (int step = 0; step < steps; step++) {
                int kind = kinds[step];
                if (kind == Tokens.NOT && depth >= 1) {
                    open[depth - 1] = all & ~open[depth - 1];
                } else if (kind == Tokens.AND && depth >= 2) {
                    depth--;
                    open[depth - 1] &= open[depth];
                } else if (kind == Tokens.OR && depth >= 2) {
                    depth--;
                    open[depth - 1] |= open[depth];
                } else if (depth < MOST_STEPS) {
                    open[depth] = blocksOfStep(step, tree, finality);
                    depth++;
                }
            }
            return depth == 1 ? open[0] : 0;
        }

        private int blocksOfStep(int step, Chain tree, Finality finality) {
            int bits = 0;
            for (int b = 0; b < tree.blocks; b++) {
                if (isSo(step, b, tree, finality)) {
                    bits |= 1 << b;
                }
            }
            return bits;
        }

        private boolean isSo(int step, int b, Chain tree, Finality finality) {
            switch (kinds[step]) {
                case Tokens.LEAF:
                    return tree.blocksOn(b) == 0;
                case Tokens.POINT:
                    return tree.isPoint(b);
                case Tokens.JUST:
                    return (finality.just >> b & 1) == 1;
                case Tokens.FINAL:
                    return (finality.finals >> b & 1) == 1;
                case Tokens.CHOSEN:
                    return (finality.wayBits >> b & 1) == 1;
                case Tokens.UNDER:
                    return tree.isAhead(values[step], b);
                case Tokens.HEIGHT:
                    return compares(tree.height[b], step);
                case Tokens.LEVEL:
                    return tree.isPoint(b) && compares(tree.level[b], step);
                case Tokens.HEFT:
                    return compares(finality.heft[b], step);
                case Tokens.NUMBER:
                    return compares(b, step);
                default:
                    return false;
            }
        }

        private boolean compares(int measure, int step) {
            switch (signs[step]) {
                case '<':
                    return measure < values[step];
                case '=':
                    return measure == values[step];
                default:
                    return measure > values[step];
            }
        }
    }
}
