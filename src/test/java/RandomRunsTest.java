import java.nio.charset.StandardCharsets;
import java.util.ArrayList;
import java.util.List;
import java.util.Random;

/** Random runs of calls, on the class and on the oracle at once: all answers must be alike. */
public final class RandomRunsTest {
    private static final int RUNS = 500;
    private static final int CALLS = 480;
    private static final String[] NAMES = {"a", "b", "c", "d", "e", "f", "g", "h", "ii", "jj",
        "kkk", "l", "m", "nnnnnnn", "o", "p", "q", "r", "s", "t", "u", "v", "w", "x", "y", "z",
        "from", "to", "root", "leafs"};

    private final Random random;
    private final FinalLinks x = new FinalLinks();
    private final Oracle o = new Oracle();
    private final String run;
    private int calls = 0;

    private RandomRunsTest(int seed) {
        random = new Random(seed);
        run = "run " + seed + ": ";
    }

    public static void main(String[] args) {
        for (int seed = 0; seed < RUNS; seed++) {
            new RandomRunsTest(seed).go();
        }
        Check.finish("RandomRunsTest");
    }

    private void go() {
        text(chainText());
        same("chain", x::chain, o::chain);
        while (calls < CALLS) {
            int pick = random.nextInt(100);
            if (pick < 35) {
                act();
            } else if (pick < 40) {
                justify();
            } else if (pick < 52) {
                readText();
            } else if (pick < 55) {
                keepOrRestore();
            } else {
                ask();
            }
        }
    }

    private void same(String what, Check.Call got, Check.Call want) {
        calls++;
        long due = Check.answerOf(want);
        Check.due(run + "call " + calls + " " + what, Check.answerOf(got), due);
    }

    private int any(int n) {
        return n <= 0 || random.nextInt(25) == 0 ? random.nextInt(4) - 2 + Math.max(0, n)
                * random.nextInt(2) : random.nextInt(n);
    }

    private int block() {
        return any(o.count(1));
    }

    private int voter() {
        return any(o.count(0));
    }

    private void act() {
        int v = voter();
        int a = block();
        int b = block();
        int seed = random.nextInt();
        int n = random.nextInt(8) == 0 ? any(61) : 1 + random.nextInt(6);
        switch (random.nextInt(10)) {
            case 0:
            case 1:
            case 2:
            case 3:
                int s = Math.min(a, b);
                int t = Math.max(a, b);
                same("votes " + v + " " + s + " " + t, () -> x.votes(v, s, t),
                        () -> o.votes(v, s, t));
                break;
            case 4:
            case 5:
                same("looks " + v + " " + a, () -> x.looks(v, a), () -> o.looks(v, a));
                break;
            case 6:
                if (random.nextInt(3) == 0) {
                    same("grows " + a, () -> x.grows(a), () -> o.grows(a));
                }
                break;
            case 7:
                same("drawn " + n + " " + seed, () -> x.drawn(n, seed), () -> o.drawn(n, seed));
                break;
            default:
                same("undo", x::undo, o::undo);
                break;
        }
    }

    /** Votes for a point what it needs, so that points do become just and final. */
    private void justify() {
        int t = block();
        same("way " + t, () -> x.way(t), () -> o.way(t));
        same("wayFrom", x::wayFrom, o::wayFrom);
        int s = o.wayFrom();
        same("need", () -> x.need(s, t), () -> o.need(s, t));
        same("needed", x::needed, o::needed);
        int who = o.needed();
        for (int v = 0; v < 8 && who > 0; v++) {
            if ((who >> v & 1) == 1) {
                int w = v;
                same("votes", () -> x.votes(w, s, t), () -> o.votes(w, s, t));
            }
        }
    }

    private void keepOrRestore() {
        int k = any(2);
        if (random.nextBoolean()) {
            same("image " + k, () -> x.image(k) ? 1 : 0, () -> o.image(k) ? 1 : 0);
        } else {
            same("restore " + k, () -> x.restore(k) ? 1 : 0, () -> o.restore(k) ? 1 : 0);
        }
    }

    private void readText() {
        int pick = random.nextInt(20);
        if (pick == 0) {
            text(mutated(chainText()));
            same("chain", x::chain, o::chain);
        } else if (pick < 3) {
            // A FAULT leaves the CHAIN as it is.
            text(mutated(chainText()) + "!");
            same("chain", x::chain, o::chain);
        } else if (pick < 11) {
            text(mutated(bookText()));
            int lives = random.nextInt(12) == 0 ? random.nextInt(9) - 4 : random.nextInt(2);
            same("book " + lives, () -> x.book(lives), () -> o.book(lives));
            for (int i = -1; i < 5; i++) {
                int what = i;
                same("told " + what, () -> x.told(what), () -> o.told(what));
            }
        } else {
            text(mutated(sentenceText()));
            same("sentence", x::sentence, o::sentence);
            same("said", () -> x.said(-1), () -> o.said(-1));
        }
        same("fault", x::fault, o::fault);
        same("count 4", () -> x.count(4), () -> o.count(4));
    }

    private void ask() {
        int a = block();
        int b = block();
        int v = voter();
        int k = any(12);
        int what = any(9);
        int seed = random.nextInt();
        int n = random.nextInt(9) == 0 ? random.nextInt(24) - 1 : 1 + random.nextInt(3);
        int s = random.nextInt(4) == 0 ? b : Math.min(a, b);
        int t = random.nextInt(4) == 0 ? a : Math.max(a, b);
        switch (random.nextInt(25)) {
            case 0:
            case 1:
                same("block " + a + " " + what, () -> x.block(a, what), () -> o.block(a, what));
                break;
            case 2:
                same("ahead", () -> x.ahead(a, b), () -> o.ahead(a, b));
                break;
            case 3:
                same("fork", () -> x.fork(a, b), () -> o.fork(a, b));
                break;
            case 4:
                same("weight", () -> x.weight(a, v), () -> o.weight(a, v));
                break;
            case 5:
                int part = any(4);
                same("voter " + part, () -> x.voter(v, part), () -> o.voter(v, part));
                break;
            case 6:
                int field = any(3);
                same("vote " + field, () -> x.vote(k, field), () -> o.vote(k, field));
                break;
            case 7:
            case 8:
                int side = any(6);
                same("link " + s + " " + t + " " + side, () -> x.link(s, t, side),
                        () -> o.link(s, t, side));
                break;
            case 9:
                same("offends", () -> x.offends(v, s, t), () -> o.offends(v, s, t));
                break;
            case 10:
                int of = any(3);
                same("evidence", () -> x.evidence(k, of), () -> o.evidence(k, of));
                break;
            case 11:
            case 12:
            case 13:
                same("now " + what, () -> x.now(what), () -> o.now(what));
                break;
            case 14:
                int step = any(5);
                same("chosen " + step, () -> x.chosen(step), () -> o.chosen(step));
                break;
            case 15:
                same("need", () -> x.need(s, t), () -> o.need(s, t));
                same("needed", x::needed, o::needed);
                break;
            case 16:
                same("way", () -> x.way(t), () -> o.way(t));
                same("wayFrom", x::wayFrom, o::wayFrom);
                break;
            case 17:
                int at = any(2);
                same("clash", x::clash, o::clash);
                same("clashAt", () -> x.clashAt(at), () -> o.clashAt(at));
                break;
            case 18:
                int up = any(2);
                same("guilt", () -> x.guilt(up), () -> o.guilt(up));
                break;
            case 19:
                int above = any(2);
                same("mean", () -> x.mean(above), () -> o.mean(above));
                break;
            case 20:
                same("tag", () -> x.tag(k), () -> o.tag(k));
                for (int i = -1; i < 3; i++) {
                    int place = i * 8;
                    same("byteAt", () -> x.byteAt(place), () -> o.byteAt(place));
                }
                break;
            case 21:
                same("odds " + a + " " + n, () -> x.odds(a, n, seed), () -> o.odds(a, n, seed));
                break;
            case 22:
            case 23:
                int which = any(6) - 1;
                same("said " + which, () -> x.said(which), () -> o.said(which));
                break;
            default:
                int of5 = any(5);
                same("count " + of5, () -> x.count(of5), () -> o.count(of5));
                break;
        }
    }

    // ---- texts

    private void text(String text) {
        byte[] bytes = text.getBytes(StandardCharsets.ISO_8859_1);
        int length = Math.min(940, bytes.length);
        same("end", () -> x.end(0) ? 1 : 0, () -> o.end(0) ? 1 : 0);
        for (int at = 0; at < length; at += 20) {
            int[] n = Check.numbers(bytes, at);
            long got = x.feed(n[0], n[1], n[2], n[3], n[4]);
            Check.due(run + "feed", got, o.feed(n[0], n[1], n[2], n[3], n[4]));
        }
        same("end", () -> x.end(length) ? 1 : 0, () -> o.end(length) ? 1 : 0);
    }

    private String oneOf(String... texts) {
        return texts[random.nextInt(texts.length)];
    }

    private String blank() {
        return random.nextInt(12) == 0 ? oneOf("  ", "\n", " \n ") : " ";
    }

    private String chainText() {
        StringBuilder s = new StringBuilder();
        List<String> free = new ArrayList<>(List.of(NAMES));
        List<String> voters = new ArrayList<>();
        List<String> blocks = new ArrayList<>();
        if (random.nextInt(2) == 0) {
            s.append("epoch ").append(random.nextInt(30) == 0 ? random.nextInt(7)
                    : 1 + random.nextInt(3)).append(";");
        }
        int mostVoters = 1 + random.nextInt(random.nextInt(3) == 0 ? 9 : 4);
        int mostBlocks = 1 + random.nextInt(random.nextInt(4) == 0 ? 21 : 14);
        int lean = random.nextInt(4);
        while (voters.size() < mostVoters || blocks.size() < mostBlocks) {
            boolean isVoter = blocks.size() >= mostBlocks
                    || voters.size() < mostVoters && random.nextInt(4) < 3;
            String name = free.isEmpty() ? "zz" : free.remove(random.nextInt(free.size()));
            if (isVoter) {
                s.append("voter").append(blank()).append(name).append(blank());
                s.append(random.nextInt(6) == 0 ? random.nextInt(11) : 1 + random.nextInt(3));
                voters.add(name);
            } else {
                s.append("block").append(blank()).append(name);
                if (!blocks.isEmpty()) {
                    int back = random.nextInt(4) < lean ? blocks.size() - 1
                            : random.nextInt(blocks.size());
                    s.append(" on").append(blank()).append(blocks.get(back));
                }
                if (!voters.isEmpty() && random.nextInt(4) == 0) {
                    s.append(" change ").append(voters.get(random.nextInt(voters.size())));
                    s.append(blank()).append(random.nextInt(10));
                }
                blocks.add(name);
            }
            s.append(";").append(random.nextInt(8) == 0 ? blank() : "");
        }
        if (random.nextInt(40) == 0) {
            while (s.length() < 895 + random.nextInt(10)) {
                s.append(' ');
            }
            s.append(oneOf("voter qqq 1;", ";", "", " ", "block"));
        }
        return s.toString();
    }

    private String voterName() {
        List<String> all = new ArrayList<>(o.w.voters.keySet());
        return all.isEmpty() || random.nextInt(60) == 0 ? oneOf(NAMES)
                : all.get(random.nextInt(all.size()));
    }

    private String blockName() {
        List<String> all = new ArrayList<>();
        for (Oracle.Block b : o.w.blocks) {
            if (b.name != null) {
                all.add(b.name);
            }
        }
        return all.isEmpty() || random.nextInt(60) == 0 ? oneOf(NAMES)
                : all.get(random.nextInt(all.size()));
    }

    private String bookText() {
        StringBuilder s = new StringBuilder();
        int lines = random.nextInt(12) == 0 ? 35 + random.nextInt(10) : random.nextInt(6);
        for (int i = 0; i < lines; i++) {
            int pick = random.nextInt(6);
            if (pick < 3) {
                s.append("vote ").append(voterName()).append(blank()).append(blockName())
                        .append(blank()).append(blockName());
            } else if (pick < 5) {
                s.append("look ").append(voterName()).append(blank()).append(blockName());
            } else {
                s.append("grow").append(blank()).append(blockName());
            }
            s.append(";");
        }
        return s.toString();
    }

    private String sentenceText() {
        int depth = random.nextInt(8) == 0 ? 9 : random.nextInt(4);
        String s = condition(depth);
        return s.length() > 230 ? s.substring(0, 150 + random.nextInt(80)) : s;
    }

    private String condition(int depth) {
        StringBuilder s = new StringBuilder(one(depth));
        int more = random.nextInt(30) == 0 ? 20 : random.nextInt(3);
        for (int i = 0; i < more; i++) {
            s.append(blank()).append(oneOf("or", "and")).append(' ').append(one(depth - 1));
        }
        return s.toString();
    }

    private String one(int depth) {
        if (depth > 0 && random.nextInt(depth > 5 ? 12 : 3) > 0) {
            return random.nextBoolean() ? "not " + one(depth - 1) : "(" + (depth > 4
                    ? one(depth - 1) : condition(depth - 1)) + ")";
        }
        String measure = oneOf("height", "level", "heft", "number");
        int value = random.nextInt(9) == 0 ? random.nextInt(1100) : random.nextInt(8);
        return oneOf("leaf", "point", "just", "final", "chosen", "under " + blockName(),
                measure + oneOf("<", " =", "> ") + value, measure + " > " + value);
    }

    private String mutated(String text) {
        if (random.nextInt(3) > 0) {
            return text;
        }
        StringBuilder s = new StringBuilder(text);
        int at = random.nextInt(s.length() + 1);
        String bit = oneOf(";", "<", "=", ">", "(", ")", " ", "\n", "x", "7", "A", "\t", "\u00e9",
                "\0", "-", " on ", " epoch ", " and ", " not ", " change ", " voter ", " r ",
                " 12 ", " 1234 ", " abcdefgh ", "999", " block ", " vote ", " number ");
        switch (random.nextInt(4)) {
            case 0:
                s.insert(at, bit);
                break;
            case 1:
                s.setLength(at);
                break;
            case 2:
                if (at < s.length()) {
                    s.deleteCharAt(at);
                }
                break;
            default:
                if (at < s.length()) {
                    s.replace(at, at + 1, bit);
                }
                break;
        }
        return s.toString();
    }
}
