import java.nio.charset.StandardCharsets;

/**
 * Texts one step beside a good one: each beginning of it, each with one byte less, one more or
 * another one, at each place. What the class answers is compared with the oracle.
 */
public final class NeighbourTextsTest {
    private static final String CHAIN = "epoch 2;voter a 1;voter bb 9;block r change a 0;"
            + "block p on r;block q on p change bb 4;";
    private static final String BOOK = "vote a r q;look bb p;grow q;look a r;vote bb r q;";
    private static final String SENTENCE =
            "not (leaf and under r) or height<2 and level = 1 or (heft > 0 and not number=1)";
    private static final String OTHERS = "abr019;<=>() \n\t!A\u0000\u00ff";

    private final FinalLinks x = new FinalLinks();
    private final Oracle o = new Oracle();

    private NeighbourTextsTest() {
    }

    public static void main(String[] args) {
        NeighbourTextsTest test = new NeighbourTextsTest();
        test.around(CHAIN, 0);
        test.around(BOOK, 1);
        test.around(SENTENCE, 2);
        Check.finish("NeighbourTextsTest");
    }

    private void around(String text, int sort) {
        read(text, sort);
        for (int at = 0; at <= text.length(); at++) {
            String head = text.substring(0, at);
            read(head, sort);
            String more = text.substring(at);
            String less = at < text.length() ? text.substring(at + 1) : "";
            read(head + less, sort);
            for (int i = 0; i < OTHERS.length(); i++) {
                read(head + OTHERS.charAt(i) + more, sort);
                read(head + OTHERS.charAt(i) + less, sort);
            }
        }
    }

    /** Every text is read by objects that have the good CHAIN. */
    private void read(String text, int sort) {
        put(CHAIN);
        Check.due("the good chain", x.chain(), o.chain());
        put(text);
        if (sort == 0) {
            Check.due("chain of " + text, x.chain(), o.chain());
        } else if (sort == 1) {
            Check.due("book of " + text, x.book(1), o.book(1));
        } else {
            Check.due("sentence of " + text, x.sentence(), o.sentence());
        }
        Check.due("fault of " + text, x.fault(), o.fault());
        for (int what = 0; what < 5; what++) {
            Check.due("count behind " + text, x.count(what), o.count(what));
        }
        for (int what = 0; what < 4; what++) {
            Check.due("told behind " + text, x.told(what), o.told(what));
        }
        for (int k = -1; k < 4; k++) {
            Check.due("said behind " + text, x.said(k), o.said(k));
        }
        Check.due("votes behind " + text, x.now(3), o.now(3));
        Check.due("looks behind " + text, x.voter(0, 2), o.voter(0, 2));
    }

    private void put(String text) {
        byte[] bytes = text.getBytes(StandardCharsets.ISO_8859_1);
        for (int at = 0; at < bytes.length; at += 20) {
            int[] n = Check.numbers(bytes, at);
            x.feed(n[0], n[1], n[2], n[3], n[4]);
            o.feed(n[0], n[1], n[2], n[3], n[4]);
        }
        x.end(bytes.length);
        o.end(bytes.length);
    }
}
