/** Promises 16, 17 and 26: VIEWS, CELLS that FIT, the VIEW that may be WRONG. */
final class SightTest {
    private static final int NONE = PairedViews.NONE;

    public static void main(String[] args) {
        view();
        fits();
        outsideTheField();
        next();
        noFits();
        wrong();
        Check.finish();
    }

    private static void view() {
        PairedViews x = Check.with(2, "straight 9;right 0;left 4;left 4;");
        int[][] want = {{0, 9}, {1, 0}, {2, 4}, {2, 4}};
        Check.due("how many", x.view(0, NONE, 0), 4);
        for (int k = 0; k < 4; k++) {
            Check.due("view " + k + " 0", x.view(0, k, 0), want[k][0]);
            Check.due("view " + k + " 1", x.view(0, k, 1), want[k][1]);
            Check.due("view " + k + " 2", x.view(0, k, 2), -2);
            Check.due("view " + k + " -1", x.view(0, k, -1), -2);
        }
        Check.due("view 4", x.view(0, 4, 0), -2);
        Check.due("view -2", x.view(0, -2, 0), -2);
        Check.due("how many, what 1", x.view(0, NONE, 1), -2);
        Check.due("sights 1", x.view(1, 0, 0), -2);
        Check.due("sights -1", x.view(-1, NONE, 0), -2);
    }

    private static void cells(String sights, int error, int... want) {
        PairedViews x = Check.with(2, sights);
        String call = "fits of " + sights + " by " + error;
        Check.due(call, x.fits(0, error, 0), want.length);
        for (int k = 0; k < want.length; k++) {
            Check.due(call + ", " + k, x.fits(0, error, 10 + k), want[k]);
        }
        Check.due(call + ", no more", x.fits(0, error, 10 + want.length), -2);
        Check.due(call + ", SURE", x.fits(0, error, 1), want.length == 1 ? want[0] : NONE);
    }

    private static void fits() {
        cells("straight 4;", 0, 4, 14, 24, 34, 44, 54, 64, 74, 84, 94);
        cells("straight 4;right 1;", 0, 24);
        cells("straight 4;right 1;", 1, 3, 13, 14, 23, 24, 25, 34, 35, 45);
        cells("straight 4;left 7;", 0, 24);
        cells("right 0;", 0, 1, 12, 23, 34, 45, 56, 67, 78, 89);
        cells("left 9;", 0, 8, 17, 26, 35, 44, 53, 62, 71, 80);
        cells("right 2;left 8;", 0, 25);
        cells("right 2;left 8;straight 4;", 0);
        cells("right 2;left 8;straight 4;", 1, 15, 24, 25, 35);
        cells("straight 0;straight 6;", 2);
        cells("straight 0;straight 6;", 3, 3, 13, 23, 33, 43, 53, 63, 73, 83, 93);
        PairedViews x = Check.with(2, "");
        Check.due("all CELLS", x.fits(0, 0, 0), 100);
        Check.due("the last", x.fits(0, 0, 109), 99);
        Check.due("no more", x.fits(0, 0, 110), -2);
    }

    private static void outsideTheField() {
        cells("right 9;", 0);
        cells("right 9;", 1, 9);
        cells("right 9;", 2, 8, 9, 19);
        cells("right 9;", 3, 7, 8, 9, 18, 19, 29);
        cells("left 0;", 0);
        cells("left 0;", 1, 0);
        cells("left 0;", 3, 0, 1, 2, 10, 11, 20);
    }

    private static void next(String sights, int error, int want) {
        Check.due("next of " + sights + " by " + error, Check.with(2, sights).fits(0, error, 2), want);
    }

    private static void next() {
        // Straight ones cross ten CELLS of a hundred, the others fewer.
        next("", 0, 0);
        // Straight from 1: the COLUMNS 0 to 4, half of all.
        next("", 3, 1);
        next("straight 0;straight 5;", 0, NONE);
        // One CELL: each VIEW crosses it or not.
        next("straight 4;right 1;", 0, 0);
        // CELLS 3 13 14 23 24 25 34 35 45: a VIEW with error 1 that crosses four or five of them.
        // Straight and right ones cross three, six or nine; to the left from 5: 3 13 14 23.
        next("straight 4;right 1;", 1, 25);
        // Straight from 2 crosses one COLUMN of three, from 3 two; slanting ones fewer than ten of thirty.
        next("straight 4;", 1, 2);
    }

    private static void noFits() {
        PairedViews x = Check.with(2, "straight 4;");
        for (int what : new int[] {-1, 3, 4, 9, 20, 110, Integer.MAX_VALUE, Integer.MIN_VALUE}) {
            Check.due("fits what " + what, x.fits(0, 0, what), -2);
        }
        Check.due("error 4", x.fits(0, 4, 0), -2);
        Check.due("error -1", x.fits(0, -1, 0), -2);
        Check.due("sights 1", x.fits(1, 0, 0), -2);
        Check.due("sights -1", x.fits(-1, 0, 0), -2);
    }

    private static void wrong(String sights, int error, int which, int many) {
        PairedViews x = Check.with(2, sights);
        Check.due("wrong of " + sights + " by " + error, x.wrong(0, error, false), which);
        Check.due("wrong of " + sights + " by " + error + ", many", x.wrong(0, error, true), many);
    }

    private static void wrong() {
        wrong("straight 4;right 1;straight 9;", 0, 0, 1);
        wrong("straight 4;straight 4;straight 5;", 0, 2, 10);
        wrong("straight 4;straight 5;straight 4;", 0, 1, 10);
        wrong("left 0;", 0, 0, 100);
        wrong("straight 0;straight 3;straight 6;", 0, 0, 0);
        wrong("straight 0;straight 3;straight 6;", 2, 0, 20);
        wrong("straight 0;straight 4;straight 9;", 3, 2, 30);
        wrong("straight 0;straight 4;straight 8;straight 3;", 2, 2, 10);
        wrong("", 0, NONE, NONE);
        wrong("straight 4;", 4, NONE, NONE);
        wrong("straight 4;", -1, NONE, NONE);
        PairedViews x = new PairedViews();
        Check.due("none such", x.wrong(0, 0, false), NONE);
        Check.due("none such, many", x.wrong(0, 0, true), NONE);
        Check.due("none such, -1", x.wrong(-1, 0, true), NONE);
    }
}
