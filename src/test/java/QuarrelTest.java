/** Promises 18, 19 and 27: FACTS, who had WORDS, the THING that would TELL. */
final class QuarrelTest {
    private static final int NONE = PairedViews.NONE;

    public static void main(String[] args) {
        fact();
        words();
        noWords();
        tell();
        Check.finish();
    }

    private static void fact() {
        PairedViews x = Check.with(3, "looked 3 7;shimmers 6;still 5;looked 0 1;");
        int[][] want = {{0, 7, 3}, {1, 6, NONE}, {2, 5, NONE}, {0, 1, 0}};
        Check.due("how many", x.fact(0, NONE, 0), 4);
        for (int k = 0; k < 4; k++) {
            for (int what = 0; what < 3; what++) {
                Check.due("fact " + k + " " + what, x.fact(0, k, what), want[k][what]);
            }
            Check.due("fact what 3", x.fact(0, k, 3), -2);
            Check.due("fact what -1", x.fact(0, k, -1), -2);
        }
        Check.due("fact 4", x.fact(0, 4, 0), -2);
        Check.due("fact 4, what 1", x.fact(0, 4, 1), -2);
        Check.due("fact -2", x.fact(0, -2, 0), -2);
        Check.due("how many, what 1", x.fact(0, NONE, 1), -2);
        Check.due("quarrels 1", x.fact(1, 0, 0), -2);
        Check.due("quarrels -1", x.fact(-1, NONE, 0), -2);
    }

    private static void sets(String quarrels, int sure, int fewest, int... want) {
        PairedViews x = Check.with(3, quarrels);
        Check.due("words of " + quarrels, x.words(0, 0), want.length);
        Check.due("SURE of " + quarrels, x.words(0, 1), sure);
        Check.due("FEWEST of " + quarrels, x.words(0, 2), fewest);
        for (int k = 0; k < want.length; k++) {
            Check.due("words of " + quarrels + ", " + k, x.words(0, 10 + k), want[k]);
        }
        Check.due("no more words of " + quarrels, x.words(0, 10 + want.length), -2);
    }

    private static void words() {
        sets("", 0, 0, 0, 1, 2, 3, 4, 5, 6, 7, 8, 9, 10, 11, 12, 13, 14, 15);
        sets("looked 0 1;looked 1 1;looked 2 3;shimmers 1;still 3;", 0, 1, 1, 2, 3, 9, 10, 11);
        sets("shimmers 1;still 3;looked 0 1;looked 1 1;looked 2 3;", 0, 1, 1, 2, 3, 9, 10, 11);
        sets("looked 0 1;shimmers 1;looked 1 2;shimmers 2;", 3, 2, 3, 7, 11, 15);
        sets("looked 0 1;shimmers 1;looked 1 1;still 2;looked 1 2;", 1, 1, 1, 5, 9, 13);
        sets("shimmers 0;", NONE, NONE);
        sets("looked 0 0;shimmers 0;still 0;", NONE, NONE);
        sets("still 0;", 0, 0, 0, 1, 2, 3, 4, 5, 6, 7, 8, 9, 10, 11, 12, 13, 14, 15);
        sets("looked 0 0;looked 1 0;looked 2 0;looked 3 0;still 0;", 0, 0, 0);
        sets("looked 3 7;shimmers 7;looked 2 6;shimmers 6;looked 1 5;shimmers 5;looked 0 4;shimmers 4;", 15, 4, 15);
    }

    private static void noWords() {
        PairedViews x = Check.with(3, "");
        for (int what : new int[] {-1, 3, 4, 9, 26, Integer.MAX_VALUE, Integer.MIN_VALUE}) {
            Check.due("words what " + what, x.words(0, what), -2);
        }
        Check.due("quarrels 1", x.words(1, 0), -2);
        Check.due("quarrels -1", x.words(-1, 0), -2);
    }

    private static void tell(String quarrels, int want) {
        Check.due("tell of " + quarrels, Check.with(3, quarrels).tell(0), want);
    }

    private static void tell() {
        tell("", NONE);
        tell("still 4;", NONE);
        tell("looked 0 1;looked 1 1;looked 2 3;shimmers 1;still 3;", 1);
        tell("looked 0 1;looked 1 1;looked 2 3;shimmers 1;still 3;looked 0 5;", 5);
        tell("looked 0 7;looked 1 6;looked 2 5;looked 1 5;", 6);
        tell("looked 0 7;", 7);
        tell("looked 0 0;", 0);
        tell("looked 0 2;looked 1 2;looked 2 2;looked 3 2;", 2);
        tell("looked 0 0;looked 1 0;looked 2 4;looked 3 2;", 2);
        tell("looked 0 0;shimmers 0;still 0;", NONE);
        tell("looked 0 0;shimmers 1;", NONE);
        PairedViews x = new PairedViews();
        Check.due("none such", x.tell(0), NONE);
        Check.due("none such, -1", x.tell(-1), NONE);
    }
}
