/** Promises 13, 14 and 15, and PAIRED of promise 23: who marries whom, who is unhappy, which two agree. */
final class EyesTest {
    private static final int NONE = PairedViews.NONE;

    public static void main(String[] args) {
        married();
        unhappy();
        paired();
        agree();
        agreeEverywhere();
        Check.finish();
    }

    private static void pairs(PairedViews x, boolean right, int... want) {
        for (int eye = 0; eye < want.length; eye++) {
            Check.due("married " + eye + " " + right, x.married(0, eye, right), want[eye]);
        }
    }

    private static void married() {
        PairedViews x = Check.with(0, Check.LAND);
        pairs(x, false, 0, 1, -2, -2, -2);
        pairs(x, true, 0, 1, -2, -2, -2);
        Check.due("eye -1", x.married(0, -1, false), -2);
        Check.due("eye -1, right", x.married(0, -1, true), -2);
        Check.due("country 1", x.married(1, 0, false), -2);
        Check.due("country -1", x.married(-1, 0, true), -2);
        // All alike: the least of several on both sides.
        x = Check.with(0, "left 1;left 1;left 1;right 1;right 1;");
        pairs(x, false, 0, 1, NONE, -2);
        pairs(x, true, 0, 1, -2);
        x = Check.with(0, "left 1;right 1;right 1;right 1;likes 0 2 1;");
        pairs(x, false, 2);
        pairs(x, true, NONE, NONE, 0, -2);
        x = Check.with(0, "left 1;");
        pairs(x, false, NONE, -2);
        pairs(x, true, -2);
        // The LEFT ones ask, so they have whom they would have, though RIGHT ones would rather have the other.
        x = Check.with(0, "left 1;left 1;right 1;right 1;likes 0 0 9;likes 1 1 9;liked 0 1 9;liked 1 0 9;");
        pairs(x, false, 0, 1);
        // One is left for another, asks on, and drives a third away.
        x = Check.with(0, "left 1;left 1;left 1;right 1;right 1;right 1;likes 0 0 9;likes 0 1 5;likes 1 1 9;likes 1 0 5;likes 2 0 9;"
            + "liked 0 2 9;liked 0 1 5;liked 0 0 2;liked 1 0 9;liked 1 1 3;liked 1 2 1;");
        pairs(x, false, 1, 2, 0);
        pairs(x, true, 2, 0, 1);
        // A RIGHT one keeps the least of several, though it asked later.
        x = Check.with(0, "left 1;left 1;right 1;right 1;likes 1 0 9;likes 0 1 1;");
        pairs(x, false, 1, 0);
        x = Check.with(0, "left 1;left 1;left 1;right 1;right 1;likes 0 1 9;likes 1 1 9;likes 2 0 9;liked 1 1 2;");
        pairs(x, false, 0, 1, NONE);
        pairs(x, true, 0, 1);
        x = Check.with(0, "left 1;left 1;left 1;right 1;right 1;right 1;likes 0 1 9;likes 1 0 9;likes 2 1 9;liked 1 2 5;");
        pairs(x, false, 0, 2, 1);
        pairs(x, true, 0, 2, 1);
        // COUPLES as told do not matter.
        x = Check.with(0, "left 1;left 1;right 1;right 1;couple 0 1;couple 1 0;");
        pairs(x, false, 0, 1);
    }

    private static void unhappy(String land, int want) {
        Check.due("unhappy " + land, Check.with(0, land).unhappy(0), want);
    }

    private static void unhappy() {
        unhappy(Check.LAND, 0);
        unhappy("", 0);
        unhappy("left 1;left 1;right 1;", 2);
        unhappy("left 1;left 1;right 1;right 1;", 4);
        unhappy("left 1;right 1;couple 0 0;", 0);
        String eyes = "left 1;left 1;right 1;right 1;";
        unhappy(eyes + "couple 0 0;couple 1 1;", 0);
        unhappy(eyes + "couple 0 0;couple 1 1;likes 0 1 1;liked 1 0 1;", 1);
        unhappy(eyes + "couple 0 0;couple 1 1;likes 0 1 1;", 0);
        unhappy(eyes + "couple 0 0;couple 1 1;liked 1 0 1;", 0);
        unhappy(eyes + "couple 0 0;couple 1 1;likes 0 1 1;liked 1 0 1;liked 1 1 1;", 0);
        unhappy(eyes + "couple 0 1;", 1);
        unhappy(eyes + "couple 0 1;likes 0 0 1;", 2);
        unhappy(eyes + "couple 0 1;liked 1 1 1;likes 0 0 1;", 3);
        PairedViews x = Check.with(0, Check.LAND);
        Check.due("country 1", x.unhappy(1), NONE);
        Check.due("country -1", x.unhappy(-1), NONE);
    }

    private static void paired(String land, int want) {
        Check.due("paired " + land, Check.with(0, land).height(0, 4), want);
    }

    private static void paired() {
        paired("left 1;left 5;right 4;right 8;", 2);
        paired("left 1;left 5;right 4;right 9;", 1);
        paired("hand 0;left 1;left 2;left 3;left 4;right 4;right 3;right 2;right 1;", 4);
        paired("hand 0;left 1;left 1;left 1;right 1;right 1;", 2);
        paired("hand 2;left 4;left 6;left 2;right 4;right 8;right 2;", 3);
        paired("hand 2;left 3;left 1;left 5;right 3;right 7;right 1;", 3);
        paired("hand 1;left 2;left 4;right 1;right 3;", 2);
        paired("hand 1;left 4;left 2;right 3;right 1;", 2);
        paired("hand 9;left 1;right 9;right 9;", 1);
        paired("hand 7;left 1;right 9;right 9;", 0);
        paired("left 1;left 1;", 0);
        paired("right 1;right 1;", 0);
    }

    private static void agree(int a, int b, int c, int hand, int which, int mean) {
        String call = "agree " + a + " " + b + " " + c + " " + hand;
        PairedViews x = new PairedViews();
        Check.due(call, x.agree(a, b, c, hand, false), which);
        Check.due(call + " mean", x.agree(a, b, c, hand, true), mean);
    }

    private static void agree() {
        agree(10, 12, 20, 3, 0, 11);
        agree(10, 20, 13, 3, 1, 11);
        agree(10, 20, 22, 3, 2, 21);
        agree(10, 20, 23, 3, 2, 21);
        agree(10, 20, 24, 3, NONE, NONE);
        agree(5, 5, 5, 0, 0, 5);
        agree(1, 2, 1, 9, 1, 1);
        agree(2, 1, 1, 9, 2, 1);
        agree(10, 8, 6, 2, 0, 9);
        agree(8, 10, 6, 2, 0, 9);
        agree(8, 12, 10, 2, 1, 9);
        agree(0, 99, 99, 0, 2, 99);
        agree(0, 1, 99, 0, NONE, NONE);
        agree(0, 1, 99, 1, 0, 0);
        agree(100, 1, 1, 9, NONE, NONE);
        agree(1, 100, 1, 9, NONE, NONE);
        agree(1, 1, 100, 9, NONE, NONE);
        agree(-1, 1, 1, 9, NONE, NONE);
        agree(1, -1, 1, 9, NONE, NONE);
        agree(1, 1, -1, 9, NONE, NONE);
        agree(1, 1, 1, 10, NONE, NONE);
        agree(1, 1, 1, -1, NONE, NONE);
        agree(Integer.MIN_VALUE, 1, 1, 9, NONE, NONE);
        agree(Integer.MAX_VALUE, 1, 1, 9, NONE, NONE);
    }

    private static void agreeEverywhere() {
        PairedViews x = new PairedViews();
        for (int i = 0; i < 1000; i++) {
            int a = i % 10;
            int b = i / 10 % 10;
            int c = i / 100;
            for (int hand = 0; hand < 10; hand += 3) {
                int[] off = {Math.abs(a - b), Math.abs(a - c), Math.abs(b - c)};
                int[] sum = {a + b, a + c, b + c};
                int want = 0;
                for (int k = 1; k < 3; k++) {
                    want = off[k] < off[want] ? k : want;
                }
                boolean none = off[want] > hand;
                Check.due("agree " + i, x.agree(a, b, c, hand, false), none ? NONE : want);
                Check.due("agree, mean " + i, x.agree(a, b, c, hand, true), none ? NONE : sum[want] >> 1);
            }
        }
    }
}
