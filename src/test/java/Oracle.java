import java.util.ArrayDeque;
import java.util.ArrayList;
import java.util.Arrays;
import java.util.Deque;
import java.util.HashSet;
import java.util.LinkedHashMap;
import java.util.List;
import java.util.Map;
import java.util.NoSuchElementException;
import java.util.Set;
import java.util.TreeSet;

/**
 * The document a second time, slow and from its words alone, with the whole library: random runs
 * compare its answers with those of the class.
 */
final class Oracle {
    static final Set<String> TOLD_WORDS = new HashSet<>(Arrays.asList(
            "epoch", "voter", "block", "on", "change", "vote", "look", "grow", "or", "and", "not",
            "leaf", "point", "just", "final", "chosen", "under", "height", "level", "heft",
            "number"));

    static final class Fault extends RuntimeException {
        private static final long serialVersionUID = 1L;
        final int kind;
        final int at;

        Fault(int kind, int at) {
            this.kind = kind;
            this.at = at;
        }
    }

    static final class Token {
        final String text; // null: the end, or no TOKEN
        final int at;
        final boolean isEnd;

        Token(String text, int at, boolean isEnd) {
            this.text = text;
            this.at = at;
            this.isEnd = isEnd;
        }
    }

    static final class Block {
        String name;
        int on = -1;
        int voter = -1;
        int weight;

        Block copy() {
            Block b = new Block();
            b.name = name;
            b.on = on;
            b.voter = voter;
            b.weight = weight;
            return b;
        }
    }

    interface Condition {
        boolean of(Oracle o, int b);
    }

    /** CHAIN, VOTES, LOOKS and SENTENCE. */
    static final class World {
        int epoch = 1;
        Map<String, Integer> voters = new LinkedHashMap<>();
        List<Block> blocks = new ArrayList<>();
        List<int[]> votes = new ArrayList<>();
        Map<Integer, Integer> looks = new LinkedHashMap<>();
        Condition sentence;

        World copy() {
            World w = new World();
            w.epoch = epoch;
            w.voters.putAll(voters);
            for (Block b : blocks) {
                w.blocks.add(b.copy());
            }
            w.votes.addAll(votes);
            w.looks.putAll(looks);
            w.sentence = sentence;
            return w;
        }
    }

    World w = new World();
    private String tape = "";
    private int fault = 0;
    private int needed = -1;
    private int wayFrom = -1;
    private String tag = "";
    private int[] told = {-1, -1, -1, -1};
    private final Deque<World> past = new ArrayDeque<>();
    private final World[] images = new World[2];

    // ---- texts

    private static List<Token> tokensOf(String s, int most) {
        List<Token> row = new ArrayList<>();
        int i = 0;
        while (true) {
            while (i < s.length() && (s.charAt(i) == ' ' || s.charAt(i) == '\n')) {
                i++;
            }
            if (i >= s.length() || i >= most) {
                boolean over = s.length() > most;
                row.add(new Token(null, over ? most : s.length(), !over));
                return row;
            }
            int j = i;
            while (j < s.length() && String.valueOf(s.charAt(j)).matches("[a-z0-9]")) {
                j++;
            }
            if (j == i) {
                j++;
            }
            String text = s.substring(i, j);
            boolean good = text.matches("[a-z]{1,7}|[0-9]{1,3}|[;<=>()]");
            row.add(new Token(good ? text : null, i, false));
            if (!good) {
                return row;
            }
            i = j;
        }
    }

    private List<Token> row;
    private int next;

    private Token peek() {
        return row.get(next);
    }

    private boolean is(String text) {
        return text.equals(peek().text);
    }

    private void want(String text) {
        if (!is(text)) {
            throw new Fault(1, peek().at);
        }
        next++;
    }

    private int wantNumber(int least, int most) {
        Token t = peek();
        if (t.text == null || !t.text.matches("[0-9]+")) {
            throw new Fault(1, t.at);
        }
        int n = Integer.parseInt(t.text);
        if (n < least || n > most) {
            throw new Fault(2, t.at);
        }
        next++;
        return n;
    }

    private String wantName() {
        Token t = peek();
        if (t.text == null || !t.text.matches("[a-z]+") || TOLD_WORDS.contains(t.text)) {
            throw new Fault(1, t.at);
        }
        next++;
        return t.text;
    }

    private static int indexOfBlock(World v, String name) {
        for (int b = 0; b < v.blocks.size(); b++) {
            if (name.equals(v.blocks.get(b).name)) {
                return b;
            }
        }
        return -1;
    }

    private String wantNewName(World v) {
        int at = peek().at;
        String name = wantName();
        if (v.voters.containsKey(name) || indexOfBlock(v, name) >= 0) {
            throw new Fault(3, at);
        }
        return name;
    }

    private int wantBlock(World v) {
        int at = peek().at;
        int b = indexOfBlock(v, wantName());
        if (b < 0) {
            throw new Fault(3, at);
        }
        return b;
    }

    private int wantVoter(World v) {
        int at = peek().at;
        int k = new ArrayList<>(v.voters.keySet()).indexOf(wantName());
        if (k < 0) {
            throw new Fault(3, at);
        }
        return k;
    }

    private World readChain() {
        World v = new World();
        int lines = 0;
        while (!peek().isEnd) {
            int at = peek().at;
            if (is("epoch")) {
                if (lines > 0) {
                    throw new Fault(3, at);
                }
                next++;
                v.epoch = wantNumber(1, 4);
            } else if (is("voter")) {
                if (v.voters.size() == 8) {
                    throw new Fault(4, at);
                }
                next++;
                String name = wantNewName(v);
                v.voters.put(name, wantNumber(0, 9));
            } else if (is("block")) {
                if (v.blocks.size() == 20) {
                    throw new Fault(4, at);
                }
                next++;
                Block b = new Block();
                b.name = wantNewName(v);
                if (!v.blocks.isEmpty()) {
                    want("on");
                    b.on = wantBlock(v);
                }
                if (is("change")) {
                    next++;
                    b.voter = wantVoter(v);
                    b.weight = wantNumber(0, 9);
                }
                v.blocks.add(b);
            } else {
                throw new Fault(1, at);
            }
            want(";");
            lines++;
        }
        chainLines = lines;
        return v;
    }

    private int chainLines;

    private List<int[]> readBook() {
        List<int[]> lines = new ArrayList<>();
        while (!peek().isEnd) {
            int at = peek().at;
            if (!is("vote") && !is("look") && !is("grow")) {
                throw new Fault(1, at);
            }
            if (lines.size() == 40) {
                throw new Fault(4, at);
            }
            String word = peek().text;
            next++;
            if (word.equals("vote")) {
                lines.add(new int[] {0, wantVoter(w), wantBlock(w), wantBlock(w)});
            } else if (word.equals("look")) {
                lines.add(new int[] {1, wantVoter(w), wantBlock(w)});
            } else {
                lines.add(new int[] {2, wantBlock(w)});
            }
            want(";");
        }
        return lines;
    }

    private int ones;

    private Condition readCond(int within) {
        Condition left = readAll(within);
        while (is("or")) {
            next++;
            Condition a = left;
            Condition b = readAll(within);
            left = (o, x) -> a.of(o, x) || b.of(o, x);
        }
        return left;
    }

    private Condition readAll(int within) {
        Condition left = readOne(within);
        while (is("and")) {
            next++;
            Condition a = left;
            Condition b = readOne(within);
            left = (o, x) -> a.of(o, x) && b.of(o, x);
        }
        return left;
    }

    private Condition readOne(int within) {
        Token t = peek();
        String word = t.text == null ? "" : t.text;
        List<String> firsts = Arrays.asList("not", "(", "leaf", "point", "just", "final", "chosen",
                "under", "height", "level", "heft", "number");
        if (!firsts.contains(word)) {
            throw new Fault(1, t.at);
        }
        ones++;
        if (ones > 20 || within + 1 > 8) {
            throw new Fault(4, t.at);
        }
        next++;
        switch (word) {
            case "not": {
                Condition c = readOne(within + 1);
                return (o, x) -> !c.of(o, x);
            }
            case "(": {
                Condition c = readCond(within + 1);
                want(")");
                return c;
            }
            case "leaf":
                return (o, x) -> o.childrenOf(x).isEmpty();
            case "point":
                return (o, x) -> o.isPoint(x);
            case "just":
                return (o, x) -> o.justPoints().contains(x);
            case "final":
                return (o, x) -> o.finalPoints().contains(x);
            case "chosen":
                return (o, x) -> o.chosenWay().contains(x);
            case "under": {
                int b = wantBlock(w);
                return (o, x) -> o.isAhead(b, x);
            }
            default: {
                String sign = peek().text == null ? "" : peek().text;
                if (!sign.matches("[<=>]")) {
                    throw new Fault(1, peek().at);
                }
                next++;
                int n = wantNumber(0, 999);
                return (o, x) -> {
                    if (word.equals("level") && !o.isPoint(x)) {
                        return false;
                    }
                    int m = word.equals("height") ? o.height(x) : word.equals("level")
                            ? o.level(x) : word.equals("heft") ? o.heft(x) : x;
                    return sign.equals("<") ? m < n : sign.equals("=") ? m == n : m > n;
                };
            }
        }
    }

    private void open(int most) {
        row = tokensOf(tape, most);
        next = 0;
        tape = "";
        fault = 0;
    }

    // ---- terms

    int height(int b) {
        int on = w.blocks.get(b).on;
        return on < 0 ? 0 : 1 + height(on);
    }

    boolean isPoint(int b) {
        return height(b) % w.epoch == 0;
    }

    int level(int b) {
        return height(b) / w.epoch;
    }

    boolean isAhead(int a, int b) {
        int on = w.blocks.get(b).on;
        return on >= 0 && (on == a || isAhead(a, on));
    }

    List<Integer> childrenOf(int b) {
        List<Integer> found = new ArrayList<>();
        for (int i = 0; i < w.blocks.size(); i++) {
            if (w.blocks.get(i).on == b) {
                found.add(i);
            }
        }
        return found;
    }

    private boolean hasBlock(int b) {
        return b >= 0 && b < w.blocks.size();
    }

    private boolean hasVoter(int v) {
        return v >= 0 && v < w.voters.size();
    }

    private int[] weightsTold() {
        return w.voters.values().stream().mapToInt(i -> i).toArray();
    }

    private int[] weightsBy(int b) {
        Block x = w.blocks.get(b);
        int[] row = x.on < 0 ? weightsTold() : weightsBy(x.on);
        if (x.voter >= 0) {
            row[x.voter] = x.weight;
        }
        return row;
    }

    private int[] weightsAhead(int t, int less) {
        for (int b = 0; b < w.blocks.size(); b++) {
            if (isAhead(b, t) && isPoint(b) && level(b) == level(t) - less) {
                return weightsBy(b);
            }
        }
        return weightsTold();
    }

    private static int sum(int[] weights, Set<Integer> who) {
        int s = 0;
        for (int v : who) {
            s += weights[v];
        }
        return s;
    }

    private Set<Integer> allVoters() {
        Set<Integer> all = new TreeSet<>();
        for (int v = 0; v < w.voters.size(); v++) {
            all.add(v);
        }
        return all;
    }

    private Set<Integer> votersOf(int s, int t) {
        Set<Integer> found = new TreeSet<>();
        for (int[] x : w.votes) {
            if (x[1] == s && x[2] == t) {
                found.add(x[0]);
            }
        }
        return found;
    }

    private boolean counts(int t, Set<Integer> who) {
        for (int less = 1; less <= 2; less++) {
            int[] weights = weightsAhead(t, less);
            int all = sum(weights, allVoters());
            if (all <= 0 || sum(weights, who) * 3 < all * 2) {
                return false;
            }
        }
        return true;
    }

    private Set<List<Integer>> linksWithVotes() {
        Set<List<Integer>> links = new HashSet<>();
        for (int[] x : w.votes) {
            links.add(Arrays.asList(x[1], x[2]));
        }
        return links;
    }

    Set<Integer> justPoints() {
        Set<Integer> just = new TreeSet<>();
        if (!w.blocks.isEmpty()) {
            just.add(0);
        }
        boolean more = true;
        while (more) {
            more = false;
            for (List<Integer> x : linksWithVotes()) {
                if (just.contains(x.get(0)) && counts(x.get(1), votersOf(x.get(0), x.get(1)))) {
                    more |= just.add(x.get(1));
                }
            }
        }
        return just;
    }

    Set<Integer> finalPoints() {
        Set<Integer> just = justPoints();
        Set<Integer> found = new TreeSet<>();
        if (!w.blocks.isEmpty()) {
            found.add(0);
        }
        for (List<Integer> x : linksWithVotes()) {
            boolean next = level(x.get(1)) - level(x.get(0)) == 1;
            if (next && just.contains(x.get(0))
                    && counts(x.get(1), votersOf(x.get(0), x.get(1)))) {
                found.add(x.get(0));
            }
        }
        return found;
    }

    private int offence(int[] a, int[] b) {
        if (a[0] != b[0]) {
            return 0;
        }
        if (level(a[2]) == level(b[2])) {
            return 1;
        }
        boolean aAround = level(a[1]) < level(b[1]) && level(a[2]) > level(b[2]);
        boolean bAround = level(b[1]) < level(a[1]) && level(b[2]) > level(a[2]);
        return aAround || bAround ? 2 : 0;
    }

    private List<int[]> pairs() {
        List<int[]> found = new ArrayList<>();
        for (int i = 0; i < w.votes.size(); i++) {
            for (int k = i + 1; k < w.votes.size(); k++) {
                int how = offence(w.votes.get(i), w.votes.get(k));
                if (how > 0) {
                    found.add(new int[] {i, k, how});
                }
            }
        }
        return found;
    }

    private Set<Integer> offenders() {
        Set<Integer> found = new TreeSet<>();
        for (int[] p : pairs()) {
            found.add(w.votes.get(p[0])[0]);
        }
        return found;
    }

    private int base() {
        int found = -1;
        for (int b : justPoints()) {
            if (found < 0 || level(b) > level(found)) {
                found = b;
            }
        }
        return found;
    }

    int heft(int b) {
        int[] weights = weightsBy(base());
        Set<Integer> bad = offenders();
        int s = 0;
        for (Map.Entry<Integer, Integer> look : w.looks.entrySet()) {
            boolean sees = look.getValue() == b || isAhead(b, look.getValue());
            if (sees && !bad.contains(look.getKey())) {
                s += weights[look.getKey()];
            }
        }
        return s;
    }

    List<Integer> chosenWay() {
        List<Integer> found = new ArrayList<>();
        int b = base();
        while (b >= 0) {
            found.add(b);
            int best = -1;
            for (int c : childrenOf(b)) {
                if (best < 0 || heft(c) > heft(best)) {
                    best = c;
                }
            }
            b = best;
        }
        return found;
    }

    private int choice() {
        List<Integer> found = chosenWay();
        return found.isEmpty() ? -1 : found.get(found.size() - 1);
    }

    private static int bits(Iterable<Integer> numbers) {
        int bits = 0;
        for (int n : numbers) {
            bits |= 1 << n;
        }
        return bits;
    }

    private int doVote(int v, int s, int t) {
        if (!isPoint(s) || !isPoint(t)) {
            return 1;
        }
        if (!isAhead(s, t)) {
            return 2;
        }
        if (votersOf(s, t).contains(v)) {
            return 3;
        }
        if (w.votes.size() == 48) {
            return 4;
        }
        w.votes.add(new int[] {v, s, t});
        return 0;
    }

    private int doLook(int v, int b) {
        Integer before = w.looks.put(v, b);
        return before != null && before == b ? 1 : 0;
    }

    private int doGrow(int b) {
        if (w.blocks.size() == 20) {
            return 1;
        }
        Block x = new Block();
        x.on = b;
        w.blocks.add(x);
        return 0;
    }

    private int seed;

    private int draw(int n) {
        seed = seed * 1103515245 + 12345;
        return (seed >>> 8) % n;
    }

    private int deeds(int n, int x) {
        seed = x;
        int done = 0;
        for (int i = 0; i < n && !w.blocks.isEmpty(); i++) {
            int sort = draw(8);
            int b = draw(w.blocks.size());
            int why = 1;
            if (sort == 0) {
                why = doGrow(b);
            } else if (!w.voters.isEmpty()) {
                int v = draw(w.voters.size());
                why = sort < 3 ? doLook(v, b) : doVote(v, b, draw(w.blocks.size()));
            }
            done += why == 0 ? 1 : 0;
        }
        return done;
    }

    private void keep(World before) {
        past.addLast(before);
        if (past.size() > 8) {
            past.removeFirst();
        }
    }

    private boolean isLink(int s, int t) {
        return hasBlock(s) && hasBlock(t) && isPoint(s) && isPoint(t) && isAhead(s, t);
    }

    private int lastNeed;

    private int needOf(int s, int t) {
        Set<Integer> free = new TreeSet<>();
        for (int v : allVoters()) {
            World before = w.copy();
            boolean good = !offenders().contains(v) && doVote48(v, s, t)
                    && !offenders().contains(v);
            w = before;
            if (good) {
                free.add(v);
            }
        }
        int found = -1;
        for (int set = 0; set < 256; set++) {
            Set<Integer> who = new TreeSet<>();
            for (int v = 0; v < 8; v++) {
                if ((set >> v & 1) == 1) {
                    who.add(v);
                }
            }
            if (!free.containsAll(who)) {
                continue;
            }
            int size = who.size();
            who.addAll(votersOf(s, t));
            if (counts(t, who) && (found < 0 || size < found)) {
                found = size;
                lastNeed = set;
            }
        }
        return found;
    }

    /** A VOTE that comes whether there are 48 or not: false, if the VOTER has it. */
    private boolean doVote48(int v, int s, int t) {
        if (votersOf(s, t).contains(v)) {
            return false;
        }
        w.votes.add(new int[] {v, s, t});
        return true;
    }

    private int part(int above, int below, int what) {
        for (int d = Math.max(above, below); d > 1; d--) {
            if (above % d == 0 && below % d == 0) {
                return (what == 0 ? above : below) / d;
            }
        }
        return what == 0 ? above : below;
    }

    // ---- the face

    int feed(int a, int b, int c, int d, int e) {
        if (tape.length() + 20 > 940) {
            return -1;
        }
        StringBuilder s = new StringBuilder(tape);
        for (int n : new int[] {a, b, c, d, e}) {
            for (int shift = 24; shift >= 0; shift -= 8) {
                s.append((char) (n >> shift & 255));
            }
        }
        tape = s.toString();
        return tape.length();
    }

    boolean end(int n) {
        if (n < 0 || n > tape.length()) {
            return false;
        }
        tape = tape.substring(0, n);
        return true;
    }

    int chain() {
        open(900);
        try {
            w = readChain();
            past.clear();
            return chainLines;
        } catch (Fault f) {
            fault = f.kind;
            return -1 - f.at;
        }
    }

    int fault() {
        return fault;
    }

    int block(int b, int what) {
        if (!hasBlock(b) || what < 0 || what > 7) {
            throw new NoSuchElementException();
        }
        int[] all = {w.blocks.get(b).on, height(b), isPoint(b) ? level(b) : -1,
            bits(childrenOf(b)), w.blocks.get(b).voter, justPoints().contains(b) ? 1 : 0,
            finalPoints().contains(b) ? 1 : 0, heft(b)};
        return all[what];
    }

    int ahead(int a, int b) {
        return hasBlock(a) && hasBlock(b) ? isAhead(a, b) ? 1 : 0 : -1;
    }

    int fork(int a, int b) {
        if (!hasBlock(a) || !hasBlock(b)) {
            return -1;
        }
        int x = a;
        while (!(x == b || isAhead(x, b))) {
            x = w.blocks.get(x).on;
        }
        return x;
    }

    int weight(int b, int v) {
        return hasBlock(b) && hasVoter(v) && isPoint(b) ? weightsBy(b)[v] : -1;
    }

    int voter(int v, int what) {
        if (!hasVoter(v)) {
            return -1;
        }
        switch (what) {
            case 0:
                return weightsTold()[v];
            case 1:
                return (int) w.votes.stream().filter(x -> x[0] == v).count();
            case 2:
                return w.looks.getOrDefault(v, -1);
            case 3:
                return offenders().contains(v) ? 1 : 0;
            default:
                return -1;
        }
    }

    int vote(int k, int what) {
        return k >= 0 && k < w.votes.size() && what >= 0 && what < 3 ? w.votes.get(k)[what] : -1;
    }

    int link(int s, int t, int what) {
        if (!isLink(s, t) || what < 0 || what > 5) {
            throw new NoSuchElementException();
        }
        Set<Integer> who = votersOf(s, t);
        int[] all = {bits(who), sum(weightsAhead(t, 1), who), sum(weightsAhead(t, 1), allVoters()),
            sum(weightsAhead(t, 2), who), sum(weightsAhead(t, 2), allVoters()),
            counts(t, who) ? 1 : 0};
        return all[what];
    }

    int votes(int v, int s, int t) {
        if (!hasVoter(v) || !hasBlock(s) || !hasBlock(t)) {
            return -1;
        }
        World before = w.copy();
        int why = doVote(v, s, t);
        if (why == 0) {
            keep(before);
        }
        return why;
    }

    int looks(int v, int b) {
        if (!hasVoter(v) || !hasBlock(b)) {
            return -1;
        }
        World before = w.copy();
        int why = doLook(v, b);
        if (why == 0) {
            keep(before);
        }
        return why;
    }

    int grows(int b) {
        if (!hasBlock(b)) {
            return -1;
        }
        World before = w.copy();
        int why = doGrow(b);
        if (why == 0) {
            keep(before);
        }
        return why;
    }

    int undo() {
        if (past.isEmpty()) {
            return -1;
        }
        Condition sentence = w.sentence;
        w = past.removeLast();
        w.sentence = sentence;
        return past.size();
    }

    int offends(int v, int s, int t) {
        if (!hasVoter(v) || !isLink(s, t) || votersOf(s, t).contains(v)) {
            return -1;
        }
        int least = 0;
        for (int[] x : w.votes) {
            int how = offence(x, new int[] {v, s, t});
            if (how > 0) {
                least = least == 0 ? how : Math.min(least, how);
            }
        }
        return least;
    }

    int evidence(int k, int what) {
        List<int[]> all = pairs();
        return k >= 0 && k < all.size() && what >= 0 && what < 3 ? all.get(k)[what] : -1;
    }

    int now(int what) {
        switch (what) {
            case 0:
                return bits(justPoints());
            case 1:
                return bits(finalPoints());
            case 2:
                return bits(offenders());
            case 3:
                return w.votes.size();
            case 4:
                return linksWithVotes().size();
            case 5:
                return (int) linksWithVotes().stream()
                        .filter(x -> counts(x.get(1), votersOf(x.get(0), x.get(1)))).count();
            case 6:
                return pairs().size();
            case 7:
                return base();
            case 8:
                return choice();
            default:
                return -1;
        }
    }

    int chosen(int k) {
        List<Integer> all = chosenWay();
        return k >= 0 && k < all.size() ? all.get(k) : -1;
    }

    int need(int s, int t) {
        if (!isLink(s, t)) {
            return -1;
        }
        int n = needOf(s, t);
        if (n >= 0) {
            needed = lastNeed;
        }
        return n;
    }

    int needed() {
        return needed;
    }

    int way(int t) {
        if (!hasBlock(t) || !isPoint(t)) {
            return -1;
        }
        Set<Integer> just = justPoints();
        if (just.contains(t)) {
            wayFrom = -1;
            return 0;
        }
        int best = -1;
        for (int s : just) {
            int n = isLink(s, t) ? needOf(s, t) : -1;
            if (n >= 0 && (best < 0 || n < best)) {
                best = n;
                wayFrom = s;
            }
        }
        return best;
    }

    int wayFrom() {
        return wayFrom;
    }

    private int[] firstClash() {
        for (int a : finalPoints()) {
            for (int b : finalPoints()) {
                if (a != b && !isAhead(a, b) && !isAhead(b, a)) {
                    return new int[] {a, b};
                }
            }
        }
        return new int[0];
    }

    int clash() {
        return firstClash().length > 0 ? 1 : 0;
    }

    int clashAt(int k) {
        int[] found = firstClash();
        return k >= 0 && k < found.length ? found[k] : -1;
    }

    int guilt(int what) {
        int all = sum(weightsTold(), allVoters());
        if (all == 0 || what < 0 || what > 1) {
            throw new NoSuchElementException();
        }
        return part(sum(weightsTold(), offenders()), all, what);
    }

    int mean(int what) {
        if (w.blocks.isEmpty() || what < 0 || what > 1) {
            throw new NoSuchElementException();
        }
        int heights = 0;
        int leaves = 0;
        for (int b = 0; b < w.blocks.size(); b++) {
            if (childrenOf(b).isEmpty()) {
                heights += height(b);
                leaves++;
            }
        }
        return part(heights, leaves, what);
    }

    int tag(int k) {
        if (k < 0 || k >= w.votes.size()) {
            return -1;
        }
        int[] x = w.votes.get(k);
        String name = new ArrayList<>(w.voters.keySet()).get(x[0]);
        tag = name + " from " + x[1] + " to " + x[2];
        return tag.length();
    }

    int byteAt(int i) {
        return i >= 0 && i < tag.length() ? tag.charAt(i) : -1;
    }

    int drawn(int n, int seed) {
        if (n < 1 || n > 60) {
            return -1;
        }
        World before = w.copy();
        int done = deeds(n, seed);
        if (done > 0) {
            keep(before);
        }
        return done;
    }

    int odds(int b, int n, int seed) {
        if (!hasBlock(b) || n < 1 || n > 20) {
            return -1;
        }
        int times = 0;
        for (int i = 0; i < n; i++) {
            World before = w.copy();
            deeds(12, seed + i);
            times += chosenWay().contains(b) ? 1 : 0;
            w = before;
        }
        return times;
    }

    int book(int lives) {
        if (lives != 0 && lives != 1) {
            return -1000;
        }
        open(400);
        List<int[]> lines;
        try {
            lines = readBook();
        } catch (Fault f) {
            fault = f.kind;
            return -2 - f.at;
        }
        World before = w.copy();
        int why = 0;
        int done = 0;
        for (int[] x : lines) {
            why = x[0] == 0 ? doVote(x[1], x[2], x[3])
                    : x[0] == 1 ? 11 * doLook(x[1], x[2]) : 21 * doGrow(x[1]);
            if (why != 0) {
                break;
            }
            done++;
        }
        told = new int[] {why, done, bits(finalPoints()), choice()};
        if (lives == 0) {
            w = before;
        } else if (done > 0) {
            keep(before);
        }
        return why == 0 ? -1 : done;
    }

    int told(int what) {
        return what >= 0 && what < 4 ? told[what] : -1;
    }

    int sentence() {
        open(200);
        try {
            ones = 0;
            Condition c = readCond(0);
            if (!peek().isEnd) {
                throw new Fault(1, peek().at);
            }
            w.sentence = c;
            return ones;
        } catch (Fault f) {
            fault = f.kind;
            return -1 - f.at;
        }
    }

    int said(int k) {
        if (w.sentence == null) {
            return -1;
        }
        List<Integer> found = new ArrayList<>();
        for (int b = 0; b < w.blocks.size(); b++) {
            if (w.sentence.of(this, b)) {
                found.add(b);
            }
        }
        return k == -1 ? found.size() : k >= 0 && k < found.size() ? found.get(k) : -1;
    }

    boolean image(int k) {
        if (k != 0 && k != 1) {
            return false;
        }
        images[k] = w.copy();
        return true;
    }

    boolean restore(int k) {
        if (k != 0 && k != 1 || images[k] == null) {
            return false;
        }
        w = images[k].copy();
        past.clear();
        return true;
    }

    int count(int what) {
        int points = 0;
        for (int b = 0; b < w.blocks.size(); b++) {
            points += isPoint(b) ? 1 : 0;
        }
        int[] all = {w.voters.size(), w.blocks.size(), w.epoch, points, tape.length()};
        return what >= 0 && what < 5 ? all[what] : -1;
    }
}
