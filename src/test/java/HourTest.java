/** Promises 10, 11, 12, 21, 22, 23 and 24: what lasts, what to look at, ways, what is needed, what rests how high. */
final class HourTest {
    private static final int NONE = PairedViews.NONE;

    public static void main(String[] args) {
        lasts();
        watch();
        watchAnew();
        way();
        surest();
        need();
        keystone();
        height();
        served();
        parts();
        meet();
        Check.finish();
    }

    private static void lasts() {
        PairedViews x = Check.with(0, Check.LAND);
        int[] want = {10, 4, 4, 1, NONE, NONE, NONE, NONE, NONE};
        for (int t = 0; t < want.length; t++) {
            Check.due("lasts " + t, x.lasts(0, t), want[t]);
        }
        Check.due("lasts -1", x.lasts(0, -1), NONE);
        Check.due("country 1", x.lasts(1, 0), NONE);
        Check.due("country -1", x.lasts(-1, 0), NONE);
        x = Check.with(0, "thing 99 0 1;thing 98 0 1;thing 1 9 0;thing 0 0 0;thing 3 1 0;thing 9 4 1;rests 5 4;");
        Check.due("99 hours", x.lasts(0, 0), 99);
        Check.due("98 hours", x.lasts(0, 1), 98);
        Check.due("for ever", x.lasts(0, 2), NONE);
        Check.due("already", x.lasts(0, 3), 0);
        Check.due("too weak at once", x.lasts(0, 4), 0);
        Check.due("what rests on it", x.lasts(0, 5), 0);
    }

    private static void watched(PairedViews x, int things, int solid, int... row) {
        Check.due("watch: how many", x.watch(0, NONE), things);
        Check.due("watch: how much", x.watch(0, -2), solid);
        for (int c = 0; c < row.length; c++) {
            Check.due("watch: COUPLE " + c, x.watch(0, c), row[c]);
        }
        Check.due("watch: none such", x.watch(0, row.length), NONE);
    }

    private static void watch() {
        PairedViews x = Check.with(0, Check.LAND);
        watched(x, 4, 67, 1, 3);
        Check.due("watch -3", x.watch(0, -3), NONE);
        Check.due("watch country 1", x.watch(1, NONE), NONE);
        Check.due("watch country -1", x.watch(-1, -2), NONE);
        watched(Check.with(0, ""), 0, 0);
        watched(Check.with(0, "thing 5 1 2;"), 1, 3);
        watched(Check.with(0, "left 1;right 1;couple 0 0;"), 0, 0, 8);
        // At nothing rather than to make a GIANT that is too much for what is below.
        watched(Check.with(0, "thing 99 1 0;thing 1 0 0;rests 0 1;left 1;right 9;couple 0 0;"), 2, 110, 1);
        watched(Check.with(0, "thing 99 1 0;thing 99 0 0;rests 0 1;left 1;right 9;couple 0 0;"), 2, 198, 0);
        watched(Check.with(0, "thing 99 1 1;thing 1 0 0;thing 0 0 0;rests 0 1;left 1;right 1;couple 0 0;hand 0;"), 2, 101, 1);
        // More THINGS go ahead of more SOLID.
        watched(Check.with(0, "thing 1 0 1;thing 50 0 9;left 1;right 1;couple 0 0;"), 2, 44, 0);
        // No two look at one; the first row by numbers, 8 behind all others.
        watched(Check.with(0, "thing 99 0 0;left 1;left 1;right 1;right 1;couple 0 0;couple 1 1;"), 1, 99, 0, 8);
        watched(Check.with(0, "thing 99 0 0;thing 99 0 0;left 1;left 1;right 1;right 1;couple 0 0;couple 1 1;"), 2, 198, 0, 1);
        watched(Check.with(0, "thing 20 0 0;left 1;left 2;right 1;right 1;couple 0 0;couple 1 1;"), 1, 23, 8, 0);
        watched(Check.with(0, "thing 0 0 0;thing 20 0 0;thing 20 0 0;left 1;right 1;couple 0 0;"), 2, 42, 1);
        // A GIANT may be what is too much: at none.
        watched(Check.with(0, "thing 98 1 0;thing 1 0 0;rests 0 1;left 1;right 9;right 1;couple 0 0;hand 0;"), 2, 109, 1);
        watched(Check.with(0, "thing 99 1 0;thing 99 9 0;thing 10 0 0;rests 0 1;rests 1 2;left 1;right 9;couple 0 0;hand 0;"), 3, 218, 2);
        watched(Check.with(0, "thing 50 1 0;thing 99 0 0;thing 1 0 0;rests 0 2;rests 1 2;left 1;right 2;couple 0 0;hand 0;"), 3, 153, 2);
    }

    /** What was found for one COUNTRY is not answered for another. */
    private static void watchAnew() {
        PairedViews x = Check.with(0, "thing 5 1 2;");
        Check.due("watch the first", x.watch(0, -2), 3);
        Check.tell(x, 0, NONE, "thing 8 1 2;thing 1 0 1;");
        Check.due("watch the second", x.watch(1, -2), 6);
        Check.due("served, the second", x.height(1, 1), NONE);
        Check.due("watch the first again", x.watch(0, -2), 3);
        Check.due("served, the first", x.height(0, 1), 0);
        x.image(0);
        Check.tell(x, 0, 0, "thing 9 1 2;");
        Check.due("watch in its place", x.watch(0, -2), 7);
        x.again(0);
        Check.due("watch as it was", x.watch(0, -2), 3);
        Check.tell(x, 0, 0, "thing 9 1 99;");
        Check.due("watch behind a FAULT", x.watch(0, -2), 3);
    }

    private static void way() {
        PairedViews x = Check.with(0, Check.LAND);
        int[][] want = {{0, 1, NONE, NONE}, {1, 0, NONE, NONE}, {NONE, NONE, 0, NONE}, {2, 1, NONE, 0}};
        for (int from = 0; from < 4; from++) {
            for (int to = 0; to < 4; to++) {
                Check.due("way " + from + " " + to, x.way(0, from, to, false), want[from][to]);
            }
        }
        noWay(x, false);
        x = Check.with(0, "thing 50 0 0;thing 3 0 1;thing 50 0 0;thing 9 0 3;thing 9 0 1;thing 9 0 1;"
            + "path 0 1;path 1 2;path 3 0;path 4 3;path 5 4;path 0 5;");
        Check.due("over what thins", x.way(0, 0, 2, false), 2);
        Check.due("back", x.way(0, 2, 0, false), 2);
        Check.due("from 3", x.way(0, 3, 2, false), 3);
        Check.due("from 4, round", x.way(0, 4, 0, false), 2);
        Check.due("from 4 to 2", x.way(0, 4, 2, false), NONE);
        // Thing 3 is GONE behind the first hour, thing 0 already: nobody can be on it.
        x = Check.with(0, "thing 0 0 0;thing 9 0 0;thing 9 0 0;thing 1 0 1;path 0 1;path 1 2;path 2 3;");
        Check.due("from what is GONE", x.way(0, 0, 1, false), NONE);
        Check.due("on what is GONE", x.way(0, 0, 0, false), NONE);
        Check.due("to what is GONE", x.way(0, 1, 0, false), NONE);
        Check.due("to what goes", x.way(0, 2, 3, false), NONE);
        Check.due("on what goes", x.way(0, 3, 3, false), 0);
        Check.due("from what goes", x.way(0, 3, 2, false), 1);
        x = Check.with(0, Check.times(8, "thing 9 0 0;") + "path 0 1;path 1 2;path 2 3;path 3 4;path 4 5;path 5 6;path 6 7;");
        Check.due("seven hours", x.way(0, 7, 0, false), 7);
    }

    private static void noWay(PairedViews x, boolean surest) {
        Check.due("from 4", x.way(0, 4, 0, surest), NONE);
        Check.due("to 4", x.way(0, 0, 4, surest), NONE);
        Check.due("from -1", x.way(0, -1, 0, surest), NONE);
        Check.due("to -1", x.way(0, 0, -1, surest), NONE);
        Check.due("country 1", x.way(1, 0, 0, surest), NONE);
        Check.due("country -1", x.way(-1, 0, 0, surest), NONE);
    }

    private static void surest() {
        PairedViews x = Check.with(0, Check.LAND);
        int[][] want = {{20, 15, NONE, 6}, {15, 15, NONE, 6}, {NONE, NONE, 9, NONE}, {6, 6, NONE, 6}};
        for (int from = 0; from < 4; from++) {
            for (int to = 0; to < 4; to++) {
                Check.due("surest " + from + " " + to, x.way(0, from, to, true), want[from][to]);
            }
        }
        noWay(x, true);
        x = Check.with(0, "thing 50 0 0;thing 3 0 0;thing 20 0 0;thing 10 0 0;thing 0 0 0;thing 30 0 0;thing 99 0 0;"
            + "path 0 1;path 1 2;path 0 3;path 3 2;path 0 4;path 4 2;path 3 5;path 5 6;");
        Check.due("round by 3", x.way(0, 0, 2, true), 10);
        Check.due("to GONE", x.way(0, 0, 4, true), NONE);
        Check.due("from GONE", x.way(0, 4, 4, true), NONE);
        Check.due("far", x.way(0, 6, 1, true), 3);
        x = Check.with(0, "thing 1 0 0;thing 9 0 0;thing 5 0 0;thing 9 9 0;path 0 1;path 1 2;path 2 0;rests 3 2;");
        Check.due("SOLID 1 is enough", x.way(0, 0, 1, true), 1);
        Check.due("over what fell in, though SOLID", x.way(0, 0, 2, true), NONE);
        Check.due("from what fell in, though SOLID", x.way(0, 2, 1, true), NONE);
        x = Check.with(0, "thing 9 0 0;thing 5 0 0;thing 9 9 0;thing 9 0 0;path 0 1;path 1 3;rests 2 1;");
        Check.due("no way over what fell in", x.way(0, 0, 3, true), NONE);
        x = Check.with(0, Check.times(8, "thing 40 0 0;") + "path 6 7;path 5 6;path 4 5;path 3 4;path 2 3;path 1 2;path 0 1;");
        Check.due("seven PATHS", x.way(0, 7, 0, true), 40);
        Check.due("seven PATHS back", x.way(0, 0, 7, true), 40);
    }

    private static void need() {
        PairedViews x = Check.with(0, Check.LAND);
        Check.due("need 3, 0", x.need(0, 3, 0), 1);
        Check.due("need 3, 1", x.need(0, 3, 1), 7);
        Check.due("need 3, 16", x.need(0, 3, 16), 97);
        Check.due("need 3, 17", x.need(0, 3, 17), NONE);
        Check.due("need 0, 0", x.need(0, 0, 0), 9);
        Check.due("need 1, 0", x.need(0, 1, 0), 5);
        Check.due("need 1, 4", x.need(0, 1, 4), 17);
        Check.due("need 2, 3", x.need(0, 2, 3), 4);
        Check.due("need 2, 4: what it rests on falls", x.need(0, 2, 4), NONE);
        // In the fourth hour 1 and 2 fall, but 0 is ahead of them by numbers and must HOLD with them.
        Check.due("need 0, 3", x.need(0, 0, 3), 15);
        Check.due("need 0, 4", x.need(0, 0, 4), 17);
        Check.due("need 0, 5", x.need(0, 0, 5), 17);
        Check.due("need 0, 9", x.need(0, 0, 9), 19);
        Check.due("need 0, 10", x.need(0, 0, 10), 21);
        Check.due("hours -1", x.need(0, 0, -1), NONE);
        Check.due("hours 100", x.need(0, 0, 100), NONE);
        Check.due("thing 4", x.need(0, 4, 0), NONE);
        Check.due("thing -1", x.need(0, -1, 0), NONE);
        Check.due("country 1", x.need(1, 0, 0), NONE);
        x = Check.with(0, "thing 0 0 0;thing 9 9 1;rests 1 0;thing 0 0 1;thing 9 0 0;rests 3 2;");
        Check.due("instead of its own", x.need(0, 0, 5), 9);
        Check.due("by 99 hours", x.need(0, 0, 99), 9);
        Check.due("not by 99", x.need(0, 2, 99), NONE);
        Check.due("98 hours", x.need(0, 2, 98), 99);
        Check.due("what rests on GONE", x.need(0, 1, 0), NONE);
        // The upper one of 0 and 1 falls ahead of the lower one, which need not bear it then.
        x = Check.with(0, "thing 0 9 0;thing 1 0 0;rests 0 1;");
        Check.due("relieved", x.need(0, 1, 0), 1);
    }

    private static void keystone() {
        PairedViews x = Check.with(0, Check.LAND);
        Check.due("keystone", x.keystone(0, false), 0);
        Check.due("its others", x.keystone(0, true), 2);
        Check.due("country 1", x.keystone(1, false), -2);
        Check.due("country 1, many", x.keystone(1, true), -2);
        Check.due("country -1", x.keystone(-1, true), -2);
        x = Check.with(0, "thing 0 0 0;");
        Check.due("none is there", x.keystone(0, false), NONE);
        Check.due("none is there, many", x.keystone(0, true), NONE);
        x = Check.with(0, "thing 0 0 0;thing 9 0 0;thing 9 0 0;");
        Check.due("the least that is there", x.keystone(0, false), 1);
        Check.due("no others", x.keystone(0, true), 0);
        x = Check.with(0, "thing 9 0 0;thing 9 0 0;thing 9 0 0;thing 9 0 0;thing 0 0 0;thing 0 0 0;"
            + "rests 0 3;rests 1 2;rests 4 1;rests 5 1;");
        Check.due("of several the least", x.keystone(0, false), 2);
        Check.due("without those GONE", x.keystone(0, true), 1);
    }

    private static void height() {
        PairedViews x = Check.with(0, Check.LAND);
        int[] want = {3, 1, 2, 3, 1, -2, -2};
        for (int what = 0; what < want.length; what++) {
            Check.due("height " + what, x.height(0, what), want[what]);
        }
        Check.due("height -1", x.height(0, -1), -2);
        Check.due("country 1", x.height(1, 0), -2);
        Check.due("country -1", x.height(-1, 0), -2);
        x = Check.with(0, "");
        int[] nothing = {0, 0, 0, 0, 0, -2};
        for (int what = 0; what < nothing.length; what++) {
            Check.due("height of nothing " + what, x.height(0, what), nothing[what]);
        }
        x = Check.with(0, Check.times(8, "thing 9 1 0;") + "rests 0 1;rests 1 2;rests 2 3;rests 3 4;rests 4 5;rests 5 6;rests 6 7;");
        Check.due("eight high", x.height(0, 0), 8);
        x = Check.with(0, "thing 9 1 0;thing 0 1 0;thing 9 1 0;thing 9 1 0;rests 0 1;rests 2 3;");
        Check.due("GONE ones don't count", x.height(0, 0), 2);
        x = Check.with(0, "thing 9 1 0;");
        Check.due("one high", x.height(0, 0), 1);
    }

    private static void served() {
        String eyes = "left 1;left 1;left 1;right 1;right 1;right 1;couple 0 0;couple 1 1;couple 2 2;";
        Check.due("none needed", Check.with(0, "thing 2 0 1;" + eyes).height(0, 1), 0);
        Check.due("one", Check.with(0, "thing 1 0 1;thing 2 0 1;" + eyes).height(0, 1), 1);
        Check.due("three", Check.with(0, Check.times(3, "thing 1 0 1;") + eyes).height(0, 1), 3);
        Check.due("four are too many", Check.with(0, Check.times(4, "thing 1 0 1;") + eyes).height(0, 1), NONE);
        Check.due("GONE ones need none", Check.with(0, "thing 0 0 9;" + eyes).height(0, 1), 0);
        Check.due("no COUPLES", Check.with(0, "thing 1 0 1;left 1;right 1;").height(0, 1), NONE);
        // A look at the upper one makes it a GIANT, so the lower one must be looked at, too, by two that are needed.
        String tower = "thing 9 9 9;thing 9 0 0;rests 0 1;left 1;left 1;right 9;right 1;couple 0 0;";
        Check.due("WEIGHT is 9 at most", Check.with(0, tower + "couple 1 1;").height(0, 1), 1);
        tower = "thing 9 8 9;thing 8 0 0;rests 0 1;left 1;left 1;right 9;right 9;couple 0 0;";
        Check.due("GIANT on too little", Check.with(0, tower).height(0, 1), NONE);
        Check.due("two for one GIANT", Check.with(0, tower + "couple 1 1;").height(0, 1), 2);
    }

    private static void parts() {
        PairedViews x = Check.with(0, Check.times(5, "thing 9 0 0;") + "thing 0 0 0;thing 9 0 0;path 0 1;path 1 0;path 4 3;path 3 5;path 5 6;path 6 2;");
        Check.due("PARTS", x.height(0, 2), 3);
        Check.due("largest", x.height(0, 3), 2);
        x = Check.with(0, Check.times(8, "thing 9 0 0;") + "path 0 7;path 7 1;path 1 6;path 6 2;path 2 5;path 5 3;path 3 4;");
        Check.due("one PART", x.height(0, 2), 1);
        Check.due("of eight", x.height(0, 3), 8);
        x = Check.with(0, "thing 9 0 0;");
        Check.due("one THING, one PART", x.height(0, 2), 1);
        Check.due("of itself", x.height(0, 3), 1);
        x = Check.with(0, Check.times(8, "thing 9 0 0;"));
        Check.due("eight PARTS", x.height(0, 2), 8);
        Check.due("of one", x.height(0, 3), 1);
    }

    private static void meet() {
        PairedViews x = Check.with(0, Check.LAND);
        int[][] want = {{0, 1, NONE, 1}, {1, 0, NONE, 1}, {NONE, NONE, 0, NONE}, {1, 1, NONE, 0}};
        for (int a = 0; a < 4; a++) {
            for (int b = 0; b < 4; b++) {
                Check.due("meet " + a + " " + b, x.meet(0, a, b), want[a][b]);
            }
        }
        Check.due("a 4", x.meet(0, 4, 0), NONE);
        Check.due("b 4", x.meet(0, 0, 4), NONE);
        Check.due("a -1", x.meet(0, -1, 0), NONE);
        Check.due("b -1", x.meet(0, 0, -1), NONE);
        Check.due("country 1", x.meet(1, 0, 0), NONE);
        x = Check.with(0, Check.times(7, "thing 9 0 0;") + "thing 0 0 0;path 0 1;path 1 2;path 2 3;path 3 4;path 4 5;path 6 7;path 0 7;");
        Check.due("half of five, more", x.meet(0, 0, 5), 3);
        Check.due("half of four", x.meet(0, 0, 4), 2);
        Check.due("over GONE", x.meet(0, 0, 6), NONE);
        Check.due("on GONE", x.meet(0, 7, 7), NONE);
        // The middle is GONE behind the first hour.
        x = Check.with(0, "thing 9 0 0;thing 1 0 1;thing 9 0 0;path 0 1;path 1 2;");
        Check.due("nowhere to meet", x.meet(0, 0, 2), NONE);
        x = Check.with(0, "thing 2 0 1;thing 9 0 0;thing 2 0 1;thing 2 0 1;path 0 1;path 1 2;path 2 3;");
        Check.due("too late", x.meet(0, 3, 0), 2);
        x = Check.with(0, "thing 1 0 1;thing 9 0 0;thing 9 0 0;path 0 1;path 1 2;");
        Check.due("off what goes", x.meet(0, 0, 2), 1);
    }
}
