/** Promises 7, 8, 9, 20 and 25: DEEDS, END, STATES, years DRAWN by a seed, what a YEAR leaves. */
final class YearTest {
    private static final int NONE = PairedViews.NONE;
    private static final String YEAR = "look 0 3;hour;look 1 0;words 0;hour;peace 0;mirror 2;hour;look 0 2;look 1 2;hour;"
        + "hour;hour;hour;hour;hour;";

    public static void main(String[] args) {
        deeds();
        course();
        fallAtTheBeginning();
        whatCantBe();
        most();
        noStates();
        after();
        drawn();
        Check.finish();
    }

    private static void deeds() {
        PairedViews x = Check.with(1, "look 3 7;words 2;peace 1;mirror 6;hour;");
        int[][] want = {{0, 3, 7}, {1, 2, NONE}, {2, 1, NONE}, {3, 6, NONE}, {4, NONE, NONE}};
        Check.due("how many", x.deed(0, NONE, 0), 5);
        for (int k = 0; k < 5; k++) {
            for (int what = 0; what < 3; what++) {
                Check.due("deed " + k + " " + what, x.deed(0, k, what), want[k][what]);
            }
            Check.due("deed what 3", x.deed(0, k, 3), -2);
            Check.due("deed what -1", x.deed(0, k, -1), -2);
        }
        Check.due("deed 5", x.deed(0, 5, 0), -2);
        Check.due("deed -2", x.deed(0, -2, 0), -2);
        Check.due("how many, what 1", x.deed(0, NONE, 1), -2);
        Check.due("how many, what -1", x.deed(0, NONE, -1), -2);
        Check.due("year 1", x.deed(1, 0, 0), -2);
        Check.due("year -1", x.deed(-1, NONE, 0), -2);
        Check.due("deed most", x.deed(0, Integer.MAX_VALUE, 0), -2);
        Check.due("deed least", x.deed(0, Integer.MIN_VALUE, 0), -2);
    }

    private static void states(PairedViews x, int n, int[] want) {
        int[] whats = {0, 1, 2, 3, 4, 10, 11, 12, 13, 20, 21, 22, 23, 30, 31, 32, 33};
        for (int i = 0; i < want.length; i++) {
            Check.due("state " + n + " " + whats[i], x.state(0, 0, n, whats[i]), want[i]);
        }
    }

    private static void course() {
        PairedViews x = Check.with(Check.LAND, YEAR);
        Check.due("till", x.till(0, 0), 16);
        states(x, 0, new int[] {0, 0, 0, 0, 0, 20, 15, 9, 6, 3, 4, 5, 0, 9, 5, 0, 0});
        states(x, 1, new int[] {0, 0, 0, 0, 1, 20, 15, 9, 15, 3, 4, 5, 0, 9, 5, 0, 0});
        states(x, 2, new int[] {1, 0, 0, 0, 0, 18, 12, 8, 15, 3, 4, 5, 0, 9, 5, 0, 0});
        states(x, 3, new int[] {1, 0, 0, 0, 2, 29, 12, 8, 15, 4, 4, 5, 0, 9, 5, 0, 0});
        states(x, 4, new int[] {1, 0, 1, 0, 2, 29, 12, 8, 15, 4, 4, 5, 0, 9, 5, 0, 0});
        states(x, 5, new int[] {2, 0, 1, 0, 0, 29, 9, 7, 9, 4, 4, 5, 0, 9, 5, 0, 0});
        states(x, 6, new int[] {2, 0, 0, 0, 0, 29, 9, 7, 9, 4, 4, 5, 0, 9, 5, 0, 0});
        states(x, 7, new int[] {2, 0, 0, 4, 0, 29, 9, 14, 9, 4, 4, 5, 0, 9, 5, 0, 0});
        states(x, 8, new int[] {3, 0, 0, 4, 0, 27, 6, 13, 3, 4, 4, 5, 0, 9, 5, 0, 0});
        states(x, 9, new int[] {3, 0, 0, 4, 1, 27, 6, 22, 3, 4, 4, 5, 0, 9, 5, 0, 0});
        // The THING below bears more now, but nothing falls in ahead of the hour's end.
        states(x, 10, new int[] {3, 0, 0, 4, 3, 27, 6, 33, 3, 4, 4, 6, 0, 10, 6, 0, 0});
        states(x, 11, new int[] {4, 14, 0, 4, 0, 25, 0, 0, 0, 4, 0, 0, 0, 0, 0, 0, 0});
        states(x, 16, new int[] {9, 14, 0, 4, 0, 15, 0, 0, 0, 4, 0, 0, 0, 0, 0, 0, 0});
        Check.due("state 17", x.state(0, 0, 17, 0), -2);
        Check.due("state -1", x.state(0, 0, -1, 0), -2);
    }

    private static void fallAtTheBeginning() {
        // The first that does not HOLD falls, with all above, though it would HOLD without them.
        PairedViews x = Check.with("thing 3 0 0;thing 0 5 0;rests 1 0;", "");
        Check.due("both fall", x.state(0, 0, 0, 1), 3);
        x = Check.with("thing 0 5 0;thing 3 0 0;rests 0 1;", "");
        Check.due("the upper one falls alone", x.state(0, 0, 0, 1), 1);
        Check.due("the lower one is there", x.state(0, 0, 0, 11), 3);
        Check.due("and bears nothing", x.state(0, 0, 0, 31), 0);
        x = Check.with("thing 9 0 0;thing 1 5 0;thing 1 4 0;rests 1 0;rests 2 0;", "");
        Check.due("no less is enough", x.state(0, 0, 0, 1), 0);
        x = Check.with("thing 9 0 0;thing 9 5 0;thing 1 5 0;rests 1 0;rests 2 1;", "mirror 0;");
        Check.due("what rests on these, too", x.state(0, 0, 0, 1), 7);
        Check.due("no mirror for what is GONE", x.till(0, 0), 0);
        Check.due("nothing LOST since", x.after(0, 0, 0), 0);
        // As 1 falls, with it 2, there is less on 3, which is looked at behind it.
        x = Check.with("thing 20 0 0;thing 1 9 0;thing 1 9 0;thing 9 0 0;rests 1 3;rests 2 1;", "");
        Check.due("relieved", x.state(0, 0, 0, 1), 6);
        Check.due("relieved 3", x.state(0, 0, 0, 13), 9);
    }

    private static void till(String year, int want) {
        Check.due("till of " + year, Check.with(Check.LAND, year).till(0, 0), want);
    }

    private static void whatCantBe() {
        till("", 0);
        till("look 2 0;hour;", 0);
        till("look 0 4;", 0);
        till("hour;look 0 3;", 1);
        till("look 0 0;look 0 1;", 1);
        till("look 0 0;look 1 0;", 2);
        till("look 0 0;hour;look 0 0;", 3);
        till("words 0;look 0 0;", 1);
        till("words 0;look 1 0;", 2);
        till("words 0;hour;look 0 0;", 2);
        till("words 0;peace 0;look 0 0;", 3);
        till("look 0 0;words 0;hour;", 3);
        till("words 1;words 1;", 1);
        till("words 2;", 0);
        till("peace 0;", 0);
        till("words 0;peace 1;", 1);
        till("words 0;peace 0;peace 0;", 2);
        till("peace 2;", 0);
        till("mirror 4;", 0);
        till("mirror 3;mirror 3;", 2);
        Check.due("two FORGED", Check.with(Check.LAND, "mirror 3;mirror 0;").state(0, 0, 2, 3), 9);
        till("hour;mirror 3;", 1);
        PairedViews x = Check.with(Check.LAND, "look 0 0;look 0 1;hour;");
        Check.due("state at END", x.state(0, 0, 1, 10), 29);
        Check.due("state behind END", x.state(0, 0, 2, 10), -2);
        Check.due("till country 1", x.till(1, 0), NONE);
        Check.due("till year 1", x.till(0, 1), NONE);
        Check.due("till -1", x.till(-1, -1), NONE);
    }

    private static void most() {
        PairedViews x = Check.with("thing 50 9 9;left 1;right 9;couple 0 0;hand 7;", "mirror 0;look 0 0;mirror 0;hour;hour;");
        Check.due("99 by a mirror", x.state(0, 0, 1, 10), 99);
        Check.due("99 by a look", x.state(0, 0, 2, 10), 99);
        Check.due("WEIGHT 9", x.state(0, 0, 2, 20), 9);
        Check.due("a GIANT all the same", x.after(0, 0, 3), 1);
        Check.due("looked at: no less", x.state(0, 0, 4, 10), 99);
        Check.due("then less", x.state(0, 0, 5, 10), 90);
        x = Check.with("thing 50 1 9;left 1;right 9;couple 0 0;hand 8;", "look 0 0;");
        Check.due("no more than HAND", x.state(0, 0, 1, 20), 1);
        Check.due("no GIANT", x.after(0, 0, 3), 0);
        x = Check.with("thing 9 1 0;left 9;right 1;couple 0 0;hand 7;", Check.times(40, "hour;"));
        Check.due("40 hours", x.state(0, 0, 40, 0), 40);
        x = Check.with("thing 9 1 0;left 9;right 1;couple 0 0;hand 7;", "look 0 0;");
        Check.due("the LEFT one sees more", x.state(0, 0, 1, 20), 2);
    }

    private static void noStates() {
        PairedViews x = Check.with(Check.LAND, "hour;");
        int[] whats = {-1, 5, 6, 7, 8, 9, 14, 17, 18, 19, 24, 27, 34, 37, 38, 40, 41, 50, 110, Integer.MAX_VALUE, Integer.MIN_VALUE};
        for (int what : whats) {
            Check.due("state what " + what, x.state(0, 0, 0, what), -2);
            Check.due("drawn what " + what, x.drawn(0, 1, 1, what), -2);
        }
        Check.due("state of country 1", x.state(1, 0, 0, 0), -2);
        Check.due("state of year 1", x.state(0, 1, 0, 0), -2);
        Check.due("state of country -1", x.state(-1, 0, 0, 0), -2);
        Check.due("state of year -1", x.state(0, -1, 0, 0), -2);
        Check.due("state most", x.state(0, 0, Integer.MAX_VALUE, 0), -2);
    }

    private static void after() {
        PairedViews x = Check.with(Check.LAND, YEAR);
        Check.due("LOST", x.after(0, 0, 0), 3);
        Check.due("FIRST", x.after(0, 0, 1), 10);
        Check.due("BUSIEST", x.after(0, 0, 2), 0);
        Check.due("GIANTS", x.after(0, 0, 3), 5);
        Check.due("what 4", x.after(0, 0, 4), -2);
        Check.due("what -1", x.after(0, 0, -1), -2);
        Check.due("country 1", x.after(1, 0, 0), -2);
        Check.due("year 1", x.after(0, 1, 0), -2);
        x = Check.with("thing 0 1 1;thing 5 1 1;left 1;left 2;right 3;right 4;couple 0 0;couple 1 1;", "words 0;look 1 1;");
        Check.due("LOST ahead of the first DEED", x.after(0, 0, 0), 0);
        Check.due("FIRST of none", x.after(0, 0, 1), NONE);
        Check.due("BUSIEST 1", x.after(0, 0, 2), 1);
        Check.due("GIANTS none", x.after(0, 0, 3), 0);
        Check.tell(x, 1, 0, "words 0;peace 1;look 1 1;");
        Check.due("BUSIEST of none", x.after(0, 0, 2), NONE);
        Check.tell(x, 1, 0, "look 1 1;hour;look 0 1;hour;look 0 1;hour;look 1 1;hour;look 1 1;");
        Check.due("BUSIEST by most", x.after(0, 0, 2), 1);
        Check.tell(x, 1, NONE, "look 0 1;hour;look 1 1;hour;look 1 1;");
        Check.due("BUSIEST, once more", x.after(0, 0, 2), 1);
        Check.due("BUSIEST of the other YEAR", x.after(0, 1, 2), 1);
        Check.tell(x, 1, 0, "hour;hour;hour;hour;hour;hour;");
        Check.due("FIRST: the fifth hour", x.after(0, 0, 1), 4);
        Check.due("LOST one", x.after(0, 0, 0), 1);
    }

    private static void drawn() {
        PairedViews x = Check.with(0, Check.LAND);
        // 1 * 1103515245 + 12345 = 1103527590, by 65536: 16838, of 8: 6, an hour.
        Check.due("drawn 1 once", x.drawn(0, 1, 1, 0), 1);
        // Then 2524885223: 38526, of 8: 6; then 662824084: 10113, of 8: 1, look, at what is GONE.
        Check.due("drawn 1 twice", x.drawn(0, 1, 2, 0), 2);
        Check.due("drawn 1 thrice: hours", x.drawn(0, 1, 3, 0), 2);
        Check.due("drawn 1 thrice: looks", x.drawn(0, 1, 3, 4), 0);
        // hour; look 0 1; look 0 0, not twice; words 0; look 1 0; mirror 1; look 1 2, look 0 2, not; hour.
        int[][] want = {{0, 2}, {1, 8}, {2, 1}, {3, 2}, {4, 0}, {10, 29}, {11, 42}, {12, 7}, {13, 0}, {20, 4}, {30, 9}};
        for (int[] due : want) {
            Check.due("drawn 5, 9 times, " + due[0], x.drawn(0, 5, 9, due[0]), due[1]);
        }
        Check.due("drawn 5, 8 times, looks", x.drawn(0, 5, 8, 4), 3);
        // The first number below 8 is 2, still a look: by COUPLE 0, by COUPLE 1, both at THING 2.
        Check.due("drawn 8 once", x.drawn(0, 8, 1, 12), 18);
        Check.due("drawn 13 once", x.drawn(0, 13, 1, 12), 20);
        Check.due("drawn 13 once, a GIANT", x.drawn(0, 13, 1, 22), 6);
        Check.due("drawn 0 times", x.drawn(0, 7, 0, 13), 6);
        Check.due("n -1", x.drawn(0, 1, -1, 0), -2);
        Check.due("n 61", x.drawn(0, 1, 61, 0), -2);
        Check.due("n 60", x.drawn(0, 1, 60, 0) >= 0, true);
        Check.due("country 1", x.drawn(1, 1, 1, 0), -2);
        Check.due("country -1", x.drawn(-1, 1, 1, 0), -2);
        PairedViews y = Check.with(0, "");
        Check.due("without THINGS and COUPLES", y.drawn(0, 1, 3, 0), 2);
        Check.due("drawn on", y.drawn(0, 1, 12, 0), 4);
        y = Check.with(0, "thing 9 1 0;thing 9 1 0;thing 9 1 0;thing 9 1 0;");
        Check.due("without COUPLES: no mirror yet", y.drawn(0, 1234567, 5, 3), 0);
        Check.due("without COUPLES: a mirror", y.drawn(0, 1234567, 6, 3), 1);
        Check.due("without COUPLES: hours", y.drawn(0, 1234567, 12, 0), 4);
        y = Check.with(0, "left 1;left 1;right 1;right 1;couple 0 0;couple 1 1;");
        int[] quarrels = {0, 0, 0, 0, 2, 3, 3, 3, 3, 3, 2};
        for (int n = 0; n < quarrels.length; n++) {
            Check.due("without THINGS, " + n, y.drawn(0, 1, n, 2), quarrels[n]);
        }
        Check.due("without THINGS: hours", y.drawn(0, 1, 10, 0), 4);
        Check.due("a seed below 0", y.drawn(0, -7, 2, 2), 2);
    }
}
