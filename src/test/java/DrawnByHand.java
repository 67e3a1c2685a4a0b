import java.util.ArrayList;
import java.util.List;

/** Years DRAWN where nothing thins and nobody sees GIANTS too heavy: hours, WORDS, FORGED, looked; in long arithmetic. */
final class DrawnByHand {
    private static final long TWO_TO_32 = 4294967296L;
    private static final int[] SEEDS = {0, 1, -1, 7, 12345, Integer.MAX_VALUE, Integer.MIN_VALUE, 99999999};
    private static final int[] TIMES = {0, 1, 2, 3, 5, 8, 13, 30, 59, 60};

    private long x;

    private DrawnByHand(int seed) {
        x = Math.floorMod((long) seed, TWO_TO_32);
    }

    /** Rows of a seed, a number of times, and what is due: hour, WORDS, FORGED, looked in this hour. */
    static List<int[]> rows(int couples, int things) {
        List<int[]> rows = new ArrayList<>();
        for (int seed : SEEDS) {
            for (int n : TIMES) {
                rows.add(new DrawnByHand(seed).row(seed, n, couples, things));
            }
        }
        return rows;
    }

    private int below(int n) {
        x = (x * 1103515245L + 12345L) % TWO_TO_32;
        return (int) (x / 65536 % n);
    }

    private int[] row(int seed, int n, int couples, int things) {
        int hour = 0;
        int words = 0;
        int forged = 0;
        int looked = 0;
        for (int i = 0; i < n; i++) {
            int die = below(8);
            if (die >= 6) {
                hour++;
                looked = 0;
            } else if (die == 5 && things > 0) {
                forged |= 1 << below(things);
            } else if (die < 3 && couples > 0 && things > 0) {
                int couple = 1 << below(couples);
                below(things);
                looked |= (words & couple) == 0 ? couple : 0;
            } else if (die == 3 && couples > 0) {
                words |= 1 << below(couples);
            } else if (die == 4 && couples > 0) {
                words &= ~(1 << below(couples));
            }
        }
        return new int[] {seed, n, hour, words, forged, looked};
    }
}
