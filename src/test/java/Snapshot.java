import java.util.ArrayList;
import java.util.List;

/** All that an object answers without being changed by it, as a row: two alike are in one state. */
final class Snapshot {
    /** Where in a row the answer of fault() stands. */
    static final int FAULT = 0;

    private Snapshot() {
    }

    static long[] of(FinalLinks x) {
        List<Long> row = new ArrayList<>();
        row.add((long) x.fault());
        for (int what = 0; what < 5; what++) {
            row.add((long) x.count(what));
        }
        for (int what = 0; what < 9; what++) {
            row.add((long) x.now(what));
        }
        for (int what = 0; what < 4; what++) {
            row.add((long) x.told(what));
        }
        row.add((long) x.needed());
        row.add((long) x.wayFrom());
        for (int i = 0; i < 24; i++) {
            row.add((long) x.byteAt(i));
        }
        for (int k = -1; k < 20; k++) {
            row.add((long) x.said(k));
            row.add((long) x.chosen(k));
        }
        addVoters(x, row);
        addBlocks(x, row);
        for (int k = 0; k < x.now(3); k++) {
            for (int what = 0; what < 3; what++) {
                row.add((long) x.vote(k, what));
            }
        }
        return row.stream().mapToLong(Long::longValue).toArray();
    }

    private static void addVoters(FinalLinks x, List<Long> row) {
        for (int v = 0; v < x.count(0); v++) {
            for (int what = 0; what < 4; what++) {
                row.add((long) x.voter(v, what));
            }
            for (int b = 0; b < x.count(1); b++) {
                row.add((long) x.weight(b, v));
            }
        }
    }

    private static void addBlocks(FinalLinks x, List<Long> row) {
        for (int b = 0; b < x.count(1); b++) {
            for (int what = 0; what < 8; what++) {
                row.add((long) x.block(b, what));
            }
        }
    }
}
