/** Promise 6: what a COUNTRY was told to be. */
final class CountryTest {
    private static final int NONE = PairedViews.NONE;

    public static void main(String[] args) {
        asTold();
        strikes();
        noneSuch();
        largest();
        Check.finish();
    }

    private static void row(PairedViews x, int from, int... want) {
        for (int i = 0; i < want.length; i++) {
            Check.due("country(0, " + (from + i) + ")", x.country(0, from + i), want[i]);
        }
    }

    private static void asTold() {
        PairedViews x = Check.with(0, Check.LAND);
        row(x, 0, 4, 2, 2, 2, 2, 3, -2, -2, -2, -2);
        row(x, 10, 20, 15, 9, 6, -2, -2, -2, -2, -2, -2);
        row(x, 20, 3, 4, 5, 0, -2, -2, -2, -2, -2, -2);
        row(x, 30, 2, 3, 1, 6, -2, -2, -2, -2, -2, -2);
        row(x, 40, NONE, 0, 1, NONE, -2, -2, -2, -2, -2, -2);
        row(x, 50, 5, 2, -2, -2, -2, -2, -2, -2, -2, -2);
        row(x, 60, 4, 9, -2, -2, -2, -2, -2, -2, -2, -2);
        row(x, 70, 0, 1, -2, -2, -2, -2, -2, -2, -2, -2);
        row(x, 80, 0, 1, -2, -2, -2, -2, -2, -2, -2, -2);
        row(x, 90, -2, -2, -2, -2, -2, -2, -2, -2, -2, -2);
        row(x, 100, 0, 1, -2, -2, -2, -2, -2, -2, -2, -2, -2, -2, -2, -2, -2, -2, -2, -2, -2, -2);
        row(x, 120, 1, 3, -2, -2, -2, -2, -2, -2, -2, -2, -2, -2, -2, -2, -2, -2, -2, -2, -2, -2);
        row(x, 140, 0, 5, -2, -2, 0, 4, -2, -2, -2, -2, -2, -2, -2, -2, -2, -2, -2, -2, -2, -2);
        row(x, 160, 3, 0, -2, -2, 2, 7, -2, -2, -2, -2, -2, -2, -2, -2, -2, -2, -2, -2, -2, -2);
        row(x, 180, -2, -2, -2);
    }

    private static void strikes() {
        PairedViews x = Check.with(0, "hand 5;thing 1 1 1;thing 2 2 2;thing 3 3 3;left 1;right 1;"
            + "rests 0 1;rests 0 2;likes 0 0 4;likes 0 0 6;liked 0 0 7;liked 0 0 2;hand 0;path 1 0;path 1 0;path 0 1;");
        row(x, 0, 3, 3, 1, 1, 0, 0);
        row(x, 40, 2, NONE, NONE);
        row(x, 100, 1, 1, 0);
        row(x, 120, 0, 0, 1);
        row(x, 140, 6);
        row(x, 160, 2);
    }

    private static void noneSuch() {
        PairedViews x = new PairedViews();
        Check.due("no COUNTRY", x.country(0, 0), -2);
        x.text(0, NONE);
        row(x, 0, 0, 0, 0, 0, 0, 3);
        row(x, 10, -2);
        row(x, 140, -2);
        row(x, 160, -2);
        Check.due("country 1", x.country(1, 0), -2);
        Check.due("country -1", x.country(-1, 0), -2);
        Check.due("country 2", x.country(2, 5), -2);
        Check.due("what -1", x.country(0, -1), -2);
        Check.due("what -10", x.country(0, -10), -2);
        Check.due("what least", x.country(0, Integer.MIN_VALUE), -2);
        Check.due("what most", x.country(0, Integer.MAX_VALUE), -2);
        Check.due("country most", x.country(Integer.MAX_VALUE, 0), -2);
        Check.due("country least", x.country(Integer.MIN_VALUE, 0), -2);
        Check.tell(x, 0, NONE, "thing 7 6 5;");
        Check.due("of country 1", x.country(1, 10), 7);
        Check.due("of country 1", x.country(1, 20), 6);
        Check.due("of country 1", x.country(1, 30), 5);
        Check.due("of country 0", x.country(0, 10), -2);
    }

    private static void largest() {
        StringBuilder text = new StringBuilder();
        for (int t = 0; t < 8; t++) {
            text.append("thing ").append(10 + t).append(' ').append(t).append(' ').append(9 - t).append(';');
        }
        for (int p = 0; p < 12; p++) {
            text.append("path ").append(p % 8).append(' ').append((p + 3) % 8).append(';');
        }
        text.append("left 1;left 2;left 3;left 4;right 5;right 6;right 7;right 8;");
        text.append("couple 3 0;couple 2 1;couple 1 2;couple 0 3;likes 3 3 9;liked 3 2 8;likes 2 3 7;rests 7 6;");
        PairedViews x = Check.with(0, text.toString());
        row(x, 0, 8, 12, 4, 4, 4, 3);
        row(x, 10, 10, 11, 12, 13, 14, 15, 16, 17, -2, -2);
        row(x, 20, 0, 1, 2, 3, 4, 5, 6, 7, -2, -2);
        row(x, 30, 9, 8, 7, 6, 5, 4, 3, 2, -2, -2);
        row(x, 46, NONE, 6, -2, -2);
        row(x, 50, 1, 2, 3, 4, -2);
        row(x, 60, 5, 6, 7, 8, -2);
        row(x, 70, 3, 2, 1, 0, -2);
        row(x, 80, 0, 1, 2, 3, -2);
        row(x, 100, 0, 1, 2, 3, 4, 5, 6, 7, 0, 1, 2, 3, -2);
        row(x, 120, 3, 4, 5, 6, 7, 0, 1, 2, 3, 4, 5, 6, -2);
        row(x, 148, 0, 0, 0, 7, 0, 0, 0, 9, -2, -2);
        row(x, 168, 0, 0, 0, 0, 0, 0, 8, 0, -2, -2);
    }
}
