/** Sentence by sentence: promises 7, 8, 9, 20 and 25, Terms 2, and what Terms 4 and 6 say of YEARS. */
final class EdgesOfYearsTest {
    private static final int NONE = PairedViews.NONE;
    private static final int[] FAR = {-3, -2, 100, Integer.MAX_VALUE, Integer.MIN_VALUE};
    /** Two THINGS that stay, two COUPLES of which the second sees GIANTS. */
    private static final String QUIET = "thing 50 2 0;thing 50 2 0;left 1;left 1;right 1;right 9;couple 0 0;couple 1 1;";

    public static void main(String[] args) {
        deeds();
        noDeeds();
        end();
        bears();
        holds();
        fallsIn();
        begins();
        looks();
        giants();
        wordsAndPeace();
        mirrors();
        hours();
        cantBe();
        states();
        noStates();
        lost();
        first();
        busiest();
        giantsAfter();
        drawn();
        drawnWithout();
        noneDrawn();
        nothingIsLeft();
        Check.finish();
    }

    private static void deeds() {
        Check.by("of DEED k, what 0: 0 look, 1 words, 2 peace, 3 mirror, 4 hour, 1, 2: its numbers (NONE without)");
        PairedViews x = Check.with(1, "hour;mirror 7;peace 3;words 0;look 3 7;look 0 0;");
        int[][] want = {{4, NONE, NONE}, {3, 7, NONE}, {2, 3, NONE}, {1, 0, NONE}, {0, 3, 7}, {0, 0, 0}};
        for (int k = 0; k < want.length; k++) {
            for (int what = 0; what < 3; what++) {
                Check.due("deed " + k + " " + what, x.deed(0, k, what), want[k][what]);
            }
        }
        Check.by("How many DEEDS (k NONE, what 0)");
        for (int n = 0; n <= 40; n++) {
            Check.due("deeds", Check.with(1, Check.times(n, "hour;")).deed(0, NONE, 0), n);
        }
    }

    private static void noDeeds() {
        Check.by("-2: there is none such (of either), or for another what.");
        PairedViews x = Check.with(1, "look 1 2;");
        for (int what : new int[] {-1, 3, 1, 2, Integer.MAX_VALUE, Integer.MIN_VALUE}) {
            Check.due("how many, what " + what, x.deed(0, NONE, what), -2);
        }
        for (int what : new int[] {-1, 3, 4, Integer.MAX_VALUE, Integer.MIN_VALUE}) {
            Check.due("deed 0, what " + what, x.deed(0, 0, what), -2);
        }
        for (int what = 0; what < 3; what++) {
            Check.due("deed 1", x.deed(0, 1, what), -2);
            Check.due("year 1", x.deed(1, 0, what), -2);
            Check.due("year -1", x.deed(-1, 0, what), -2);
            for (int far : FAR) {
                Check.due("deed " + far, x.deed(0, far, what), -2);
                Check.due("year " + far, x.deed(far, 0, what), -2);
            }
        }
        Check.due("all 40: the last", Check.with(1, Check.times(40, "hour;")).deed(0, 39, 0), 4);
        Check.due("all 40: no more", Check.with(1, Check.times(40, "hour;")).deed(0, 40, 0), -2);
    }

    private static void till(String land, String year, int want) {
        Check.due("till of " + year + " in " + land, Check.with(land, year).till(0, 0), want);
    }

    private static void end() {
        Check.by("END: the first DEED that can't be, else how many there are.");
        till(QUIET, "", 0);
        till(QUIET, "peace 0;", 0);
        till(QUIET, "words 0;", 1);
        till(QUIET, "words 0;words 0;words 1;words 1;", 1);
        till(QUIET, Check.times(39, "hour;") + "peace 0;", 39);
        till(QUIET, Check.times(40, "hour;"), 40);
        Check.by("NONE: there is none such (of either).");
        PairedViews x = Check.with(QUIET, "hour;");
        Check.due("till", x.till(0, 0), 1);
        for (int far : new int[] {-2, -1, 1, 2, Integer.MAX_VALUE, Integer.MIN_VALUE}) {
            Check.due("country " + far, x.till(far, 0), NONE);
            Check.due("year " + far, x.till(0, far), NONE);
        }
        Check.tell(x, 1, NONE, "hour;hour;");
        Check.tell(x, 0, NONE, "thing 1 0 0;");
        Check.due("of YEAR 1", x.till(0, 1), 2);
        Check.due("in COUNTRY 1", x.till(1, 1), 2);
        Check.due("of YEAR 2", x.till(0, 2), NONE);
        Check.due("in COUNTRY 2", x.till(2, 0), NONE);
    }

    private static int state(String land, String year, int what) {
        PairedViews x = Check.with(land, year);
        return x.state(0, 0, x.deed(0, NONE, 0), what);
    }

    private static void bears() {
        Check.by("WEIGHTS of all that REST on it, on these, and so on, together");
        String land = "thing 50 1 0;thing 50 2 0;thing 50 3 0;thing 50 4 0;thing 50 5 0;rests 0 1;rests 1 2;rests 3 2;";
        int[] want = {0, 1, 7, 0, 0};
        for (int t = 0; t < 5; t++) {
            Check.due("BEARS of " + t, state(land, "", 30 + t), want[t]);
        }
        String tower = Check.times(8, "thing 99 9 0;") + "rests 7 6;rests 6 5;rests 5 4;rests 4 3;rests 3 2;rests 2 1;rests 1 0;";
        for (int t = 0; t < 8; t++) {
            Check.due("BEARS in a tower, " + t, state(tower, "", 30 + t), 9 * (7 - t));
        }
        String fan = Check.times(8, "thing 63 9 0;") + "rests 1 0;rests 2 0;rests 3 0;rests 4 0;rests 5 0;rests 6 0;rests 7 0;";
        Check.due("BEARS seven", state(fan, "", 30), 63);
        Check.due("HOLDS seven", state(fan, "", 1), 0);
    }

    private static void holds() {
        Check.by("A THING HOLDS, if its SOLID is more than 0, and no less than what it BEARS.");
        Check.due("SOLID 0", state("thing 0 0 0;", "", 1), 1);
        Check.due("SOLID 1", state("thing 1 9 0;", "", 1), 0);
        Check.due("as much as it BEARS", state("thing 1 0 0;thing 1 1 0;rests 1 0;", "", 1), 0);
        Check.due("less than it BEARS", state("thing 1 0 0;thing 1 2 0;rests 1 0;", "", 1), 3);
        for (int solid = 1; solid < 20; solid++) {
            String land = "thing " + solid + " 0 0;thing 1 9 0;thing 1 5 0;rests 1 0;rests 2 0;";
            Check.due("SOLID " + solid, state(land, "", 1), solid < 14 ? 7 : 0);
        }
    }

    private static void fallsIn() {
        Check.by("the first of these by numbers, and all that REST on it, on these, and so on, FALL IN");
        // The lower one is first: it falls with all above. The upper one is first: the lower one is relieved.
        Check.due("lower first", state("thing 5 0 0;thing 5 6 0;thing 0 0 0;rests 1 0;rests 2 1;", "", 1), 7);
        Check.due("upper first", state("thing 0 6 0;thing 5 0 0;rests 0 1;", "", 1), 1);
        Check.due("middle first", state("thing 0 5 0;thing 4 6 0;thing 5 0 0;rests 0 1;rests 1 2;", "", 1), 1 + 2 + 4);
        // 0 falls; now 1 bears 3 alone and stays; then 2 falls by itself.
        String land = "thing 0 9 0;thing 3 0 0;thing 0 1 0;thing 9 3 0;rests 0 1;rests 3 1;";
        Check.due("one behind the other", state(land, "", 1), 5);
        Check.due("all eight, one behind the other", state(Check.times(8, "thing 0 1 0;"), "", 1), 255);
        Check.by("they are GONE (and weigh nothing)");
        Check.due("BEARS less", state(land, "", 31), 3);
        Check.due("no SOLID", state(land, "", 10), 0);
        Check.due("no WEIGHT", state(land, "", 20), 0);
        Check.due("BEARS nothing", state("thing 5 0 0;thing 5 6 0;rests 1 0;", "", 30), 0);
        Check.due("no SOLID, though it had", state("thing 5 0 0;thing 5 6 0;rests 1 0;", "", 11), 0);
    }

    private static void begins() {
        Check.by("A YEAR of a COUNTRY begins at hour 0, all as told, nobody having WORDS; then FALL.");
        PairedViews x = Check.with("thing 7 3 2;thing 0 1 1;left 1;right 1;couple 0 0;", "hour;words 0;");
        int[][] want = {{0, 0}, {1, 2}, {2, 0}, {3, 0}, {4, 0}, {10, 7}, {20, 3}, {30, 0}, {11, 0}, {21, 0}, {31, 0}};
        for (int round = 0; round < 2; round++) {
            for (int[] due : want) {
                Check.due("state 0 " + due[0], x.state(0, 0, 0, due[0]), due[1]);
            }
            // It begins anew however far it has been lived.
            Check.due("state 2", x.state(0, 0, 2, 2), 1);
        }
    }

    private static void looks() {
        Check.by("a COUPLE that has no WORDS, and has not looked in this hour, looks at a THING that is not GONE");
        till(QUIET, "look 0 0;", 1);
        till(QUIET, "words 0;look 0 0;", 1);
        till(QUIET, "words 1;look 0 0;", 2);
        till(QUIET, "words 0;peace 0;look 0 0;", 3);
        till(QUIET, "look 0 0;look 0 0;", 1);
        till(QUIET, "look 0 0;look 0 1;", 1);
        till(QUIET, "look 0 0;look 1 0;", 2);
        till(QUIET, "look 0 0;hour;look 0 0;", 3);
        till(QUIET, "look 0 0;words 0;look 0 1;", 2);
        till("thing 0 0 0;thing 1 0 1;left 1;right 1;couple 0 0;", "look 0 0;", 0);
        till("thing 0 0 0;thing 1 0 1;left 1;right 1;couple 0 0;", "hour;look 0 1;", 1);
        till("thing 0 0 0;thing 1 0 1;left 1;right 1;couple 0 0;", "look 0 1;hour;hour;hour;", 4);
        Check.by("its SOLID is more by both SIGHTS together, 99 at most");
        for (int solid = 80; solid < 100; solid++) {
            String land = "thing " + solid + " 0 0;left 9;right 6;couple 0 0;";
            Check.due("look at " + solid, state(land, "look 0 0;", 10), Math.min(99, solid + 15));
        }
        Check.due("1 and 1", state("thing 1 0 0;left 1;right 1;couple 0 0;", "look 0 0;", 10), 3);
        Check.due("9 and 9", state("thing 1 0 0;left 9;right 9;couple 0 0;", "look 0 0;", 10), 19);
    }

    private static void giants() {
        Check.by("if these differ by more than HAND, it is seen as a GIANT, too: its WEIGHT is 1 more, 9 at most");
        for (int hand = 0; hand < 10; hand++) {
            for (int left = 1; left < 10; left += 2) {
                for (int right = 1; right < 10; right += 2) {
                    String land = "thing 1 4 0;hand " + hand + ";left " + left + ";right " + right + ";couple 0 0;";
                    boolean giant = Math.abs(left - right) > hand;
                    PairedViews x = Check.with(land, "look 0 0;");
                    Check.due("WEIGHT in " + land, x.state(0, 0, 1, 20), giant ? 5 : 4);
                    Check.due("GIANTS in " + land, x.after(0, 0, 3), giant ? 1 : 0);
                }
            }
        }
        Check.due("HAND 3 at first", state("thing 1 4 0;left 1;right 4;couple 0 0;", "look 0 0;", 20), 4);
        Check.due("more than 3", state("thing 1 4 0;left 5;right 1;couple 0 0;", "look 0 0;", 20), 5);
        for (int weight = 0; weight < 10; weight++) {
            String land = "thing 1 " + weight + " 0;left 1;right 9;couple 0 0;";
            Check.due("once, from " + weight, state(land, "look 0 0;", 20), Math.min(9, weight + 1));
            Check.due("twice, from " + weight, state(land, "look 0 0;hour;look 0 0;", 20), Math.min(9, weight + 2));
        }
        // What is below bears more at once, but it falls by the hour alone.
        String tower = "thing 2 0 0;thing 9 2 0;rests 1 0;left 1;right 9;couple 0 0;";
        Check.due("BEARS more", state(tower, "look 0 1;", 30), 3);
        Check.due("is there yet", state(tower, "look 0 1;", 1), 0);
        Check.due("falls by the hour", state(tower, "look 0 1;hour;", 1), 3);
        Check.due("holds without", state(tower, "hour;", 1), 0);
    }

    private static void wordsAndPeace() {
        Check.by("words: a COUPLE that has none has WORDS.");
        String four = "thing 9 0 0;" + Check.times(4, "left 1;right 1;") + "couple 0 0;couple 1 1;couple 2 2;couple 3 3;";
        for (int c = 0; c < 4; c++) {
            String words = "words " + c + ";";
            String peace = "peace " + c + ";";
            Check.due(words, state(four, words, 2), 1 << c);
            till(four, words + words, 1);
            Check.due("others, too", state(four, "words 0;words 1;words 2;words 3;" + peace, 2), 15 & ~(1 << c));
            Check.due(words + "by the hour", state(four, words + "hour;hour;", 2), 1 << c);
            till(four, words + "look " + c + " 0;", 1);
        }
        Check.by("peace: one that has, has none.");
        for (int c = 0; c < 4; c++) {
            String words = "words " + c + ";";
            String peace = "peace " + c + ";";
            till(four, peace, 0);
            Check.due(words + peace, state(four, words + peace, 2), 0);
            till(four, words + peace + peace, 2);
            till(four, words + peace + words, 3);
            till(four, words + peace + "look " + c + " 0;", 3);
        }
    }

    private static void mirrors() {
        Check.by("a THING that is not GONE has twice its SOLID, 99 at most: it is FORGED");
        for (int solid = 1; solid < 100; solid++) {
            String land = "thing " + solid + " 0 0;";
            Check.due("mirror of " + solid, state(land, "mirror 0;", 10), Math.min(99, 2 * solid));
        }
        String eight = Check.times(8, "thing 1 0 0;");
        for (int t = 0; t < 8; t++) {
            Check.due("FORGED " + t, state(eight, "mirror " + t + ";", 3), 1 << t);
            Check.due("by the hour " + t, state(eight, "mirror " + t + ";hour;", 3), 1 << t);
        }
        Check.due("twice", state(eight, "mirror 2;mirror 2;mirror 2;", 12), 8);
        till("thing 0 0 0;", "mirror 0;", 0);
        till("thing 1 0 1;", "hour;mirror 0;", 1);
        // A mirror is no look: the THING thins all the same.
        Check.due("thins", state("thing 9 0 5;", "mirror 0;hour;", 10), 13);
    }

    private static void hours() {
        Check.by("each THING that is not GONE has THINS less SOLID, 0 at least, but those that were looked at in this hour");
        String land = "thing 9 0 0;thing 9 0 1;thing 9 0 8;thing 9 0 9;thing 5 0 9;left 1;right 1;couple 0 0;";
        int[] want = {9, 8, 1, 0, 0};
        for (int t = 0; t < 5; t++) {
            Check.due("SOLID of " + t, state(land, "hour;", 10 + t), want[t]);
        }
        Check.due("GONE", state(land, "hour;", 1), 8 + 16);
        Check.due("looked at", state(land, "look 0 4;hour;", 14), 7);
        Check.due("looked at: GONE", state(land, "look 0 4;hour;", 1), 8);
        Check.due("an hour on", state(land, "look 0 4;hour;hour;", 1), 4 + 8 + 16);
        Check.by("then FALL; it is the next hour");
        for (int n = 0; n <= 40; n++) {
            Check.due("hour " + n, state(QUIET, Check.times(n, "hour;"), 0), n);
        }
        // By the hour what is below thins, and falls with all above it.
        String tower = "thing 5 0 1;thing 9 4 0;thing 9 1 0;rests 1 0;rests 2 1;";
        Check.due("no hour", state(tower, "", 1), 0);
        Check.due("one hour", state(tower, "hour;", 1), 7);
        Check.due("COUPLES may look again", state(QUIET, "look 0 0;look 1 1;hour;", 4), 0);
        Check.due("WORDS stay", state(QUIET, "words 1;hour;", 2), 2);
    }

    private static void cantBe() {
        Check.by("A DEED can't be, if there is no such COUPLE, THING, or it is not as said.");
        String one = "thing 9 0 0;left 1;right 1;couple 0 0;";
        for (int i = 1; i < 8; i++) {
            till(one, "mirror " + i + ";", 0);
            till(one, "look 0 " + i + ";", 0);
        }
        for (int c = 1; c < 4; c++) {
            till(one, "look " + c + " 0;", 0);
            till(one, "words " + c + ";", 0);
            till(one, "peace " + c + ";", 0);
        }
        till("", "look 0 0;", 0);
        till("", "words 0;", 0);
        till("", "peace 0;", 0);
        till("", "mirror 0;", 0);
        till("", "hour;", 1);
        till("left 1;right 1;", "words 0;", 0);
    }

    private static void states() {
        Check.by("A STATE is behind the first n DEEDS, n up to END.");
        PairedViews x = Check.with(QUIET, "hour;mirror 0;words 1;look 1 0;hour;");
        Check.due("END", x.till(0, 0), 3);
        int[] hours = {0, 1, 1, 1};
        int[] forged = {0, 0, 1, 1};
        int[] words = {0, 0, 0, 2};
        for (int n = 0; n <= 3; n++) {
            Check.due("hour of " + n, x.state(0, 0, n, 0), hours[n]);
            Check.due("FORGED of " + n, x.state(0, 0, n, 3), forged[n]);
            Check.due("WORDS of " + n, x.state(0, 0, n, 2), words[n]);
        }
        for (int n : new int[] {4, 5, 6, -1, -2, Integer.MAX_VALUE, Integer.MIN_VALUE}) {
            Check.due("state " + n, x.state(0, 0, n, 0), -2);
        }
        PairedViews y = Check.with(QUIET, Check.times(40, "hour;"));
        Check.due("state 40", y.state(0, 0, 40, 0), 40);
        Check.due("state 41", y.state(0, 0, 41, 0), -2);
        Check.due("state 0 of nothing", Check.with(QUIET, "").state(0, 0, 0, 0), 0);
        Check.due("state 1 of nothing", Check.with(QUIET, "").state(0, 0, 1, 0), -2);
        Check.by("4: COUPLES that have looked in this hour (bits)");
        PairedViews z = Check.with(QUIET, "look 1 0;look 0 1;hour;look 0 0;");
        int[] looked = {0, 2, 3, 0, 1};
        for (int n = 0; n < looked.length; n++) {
            Check.due("looked, " + n, z.state(0, 0, n, 4), looked[n]);
        }
    }

    private static void noStates() {
        Check.by("-2: there is no such STATE, or for another what.");
        PairedViews x = Check.with(QUIET, "hour;");
        Check.tell(x, 0, NONE, Check.times(8, "thing 9 3 0;"));
        for (int what = -3; what < 60; what++) {
            boolean two = what >= 10 && what < 40 && what % 10 < 2;
            boolean eight = what >= 10 && what < 40 && what % 10 < 8;
            boolean plain = what >= 0 && what < 5;
            Check.due("of two THINGS, what " + what, x.state(0, 0, 1, what) == -2, !two && !plain);
            Check.due("of eight THINGS, what " + what, x.state(1, 0, 1, what) == -2, !eight && !plain);
            Check.due("drawn, what " + what, x.drawn(0, 1, 1, what) == -2, !two && !plain);
            Check.due("drawn, of eight, what " + what, x.drawn(1, 1, 1, what) == -2, !eight && !plain);
        }
        for (int far : FAR) {
            Check.due("what " + far, x.state(0, 0, 0, far), -2);
            Check.due("country " + far, x.state(far, 0, 0, 0), -2);
            Check.due("year " + far, x.state(0, far, 0, 0), -2);
        }
        Check.due("country 2", x.state(2, 0, 0, 0), -2);
        Check.due("year 1", x.state(0, 1, 0, 0), -2);
        Check.by("SOLID, WEIGHT, what a THING BEARS (0 each: GONE)");
        PairedViews y = Check.with("thing 9 3 0;thing 9 9 0;thing 9 9 0;rests 1 0;rests 2 1;", "");
        for (int what : new int[] {10, 11, 12, 20, 21, 22, 30, 31, 32}) {
            Check.due("GONE, what " + what, y.state(0, 0, 0, what), 0);
        }
    }

    private static void after(String land, String year, int what, int want) {
        Check.due("after of " + year + " in " + land + ", " + what, Check.with(land, year).after(0, 0, what), want);
    }

    private static void lost() {
        Check.by("how many THINGS FELL IN since it began (not ahead of its first DEED)");
        after("thing 0 0 0;thing 9 0 0;", "", 0, 0);
        after("thing 0 0 0;thing 9 0 0;", "hour;", 0, 0);
        after("thing 0 0 0;thing 1 0 1;", "", 0, 0);
        after("thing 0 0 0;thing 1 0 1;", "hour;", 0, 1);
        after(Check.times(8, "thing 1 0 1;"), "hour;", 0, 8);
        after("thing 1 0 1;thing 2 0 1;thing 3 0 1;", "hour;hour;", 0, 2);
        // Behind END nothing is done.
        after("thing 1 0 1;thing 2 0 1;thing 3 0 1;", "hour;peace 0;hour;", 0, 1);
        Check.by("-2: there is none such (of either), or for another what.");
        PairedViews x = Check.with(QUIET, "hour;");
        for (int what : new int[] {-1, -2, 4, 5, 10, Integer.MAX_VALUE, Integer.MIN_VALUE}) {
            Check.due("after what " + what, x.after(0, 0, what), -2);
        }
        for (int what = 0; what < 4; what++) {
            for (int far : new int[] {-1, 1, 2, Integer.MAX_VALUE, Integer.MIN_VALUE}) {
                Check.due("country " + far, x.after(far, 0, what), -2);
                Check.due("year " + far, x.after(0, far, what), -2);
            }
        }
    }

    private static void first() {
        Check.by("the DEED (from 0 on) by which the first of them did (none)");
        String three = "thing 1 0 1;thing 2 0 1;thing 3 0 1;";
        after(three, "", 1, NONE);
        after(three, "mirror 0;", 1, NONE);
        after(three, "hour;", 1, 0);
        after(three, "hour;hour;hour;", 1, 0);
        after(three, "mirror 1;mirror 0;hour;hour;hour;", 1, 3);
        after(three, "peace 0;hour;", 1, NONE);
        after("thing 0 0 0;thing 2 0 1;", "hour;hour;", 1, 1);
        after("thing 0 0 0;thing 2 0 1;", "hour;", 1, NONE);
        after("thing 40 0 1;", Check.times(40, "hour;"), 1, 39);
    }

    private static void busiest() {
        Check.by("the COUPLE that looked most often, of several the least (none)");
        after(QUIET, "", 2, NONE);
        after(QUIET, "words 0;hour;", 2, NONE);
        after(QUIET, "look 0 0;", 2, 0);
        after(QUIET, "look 1 0;", 2, 1);
        after(QUIET, "look 1 0;look 0 0;", 2, 0);
        after(QUIET, "look 1 0;look 0 0;hour;look 1 0;", 2, 1);
        // A look that can't be is none; behind END nobody looks.
        after(QUIET, "look 1 0;look 1 0;look 0 0;", 2, 1);
        after(QUIET, "words 0;look 0 0;look 1 0;", 2, NONE);
        String four = "thing 9 0 0;" + Check.times(4, "left 1;right 1;") + "couple 0 0;couple 1 1;couple 2 2;couple 3 3;";
        after(four, "look 3 0;look 2 0;look 1 0;look 0 0;", 2, 0);
        after(four, "look 3 0;look 2 0;look 1 0;hour;look 3 0;look 2 0;", 2, 2);
        after(four, "look 3 0;", 2, 3);
    }

    private static void giantsAfter() {
        Check.by("THINGS (bits) that were seen as GIANTS");
        after(QUIET, "look 0 0;", 3, 0);
        after(QUIET, "look 1 0;", 3, 1);
        after(QUIET, "look 1 1;", 3, 2);
        after(QUIET, "look 1 1;hour;look 1 0;", 3, 3);
        after(QUIET, "peace 1;look 1 1;", 3, 0);
        after(QUIET, "", 3, 0);
        String eight = Check.times(8, "thing 9 9 0;") + "left 1;right 9;couple 0 0;";
        after(eight, "look 0 7;", 3, 128);
    }

    private static void drawn() {
        Check.by("it is x shifted right by 16 without sign, remainder by n: n times, 0 to 60");
        PairedViews x = Check.with(0, QUIET);
        for (int[] due : DrawnByHand.rows(2, 2)) {
            int seed = due[0];
            int n = due[1];
            Check.due("hours of seed " + seed + ", " + n, x.drawn(0, seed, n, 0), due[2]);
            Check.due("WORDS of seed " + seed + ", " + n, x.drawn(0, seed, n, 2), due[3]);
            Check.due("FORGED of seed " + seed + ", " + n, x.drawn(0, seed, n, 3), due[4]);
            Check.due("looked of seed " + seed + ", " + n, x.drawn(0, seed, n, 4), due[5]);
            x = Check.with(0, QUIET);
        }
    }

    private static void drawnWithout() {
        Check.by("(Without COUPLES 0 to 4, without THINGS 0 to 2 and 5 draw no more, nothing is done.)");
        String[] lands = {"", "thing 9 0 0;thing 9 0 0;thing 9 0 0;", "left 1;left 1;right 1;right 1;couple 1 0;couple 0 1;"};
        int[][] sizes = {{0, 0}, {0, 3}, {2, 0}};
        for (int i = 0; i < lands.length; i++) {
            for (int[] due : DrawnByHand.rows(sizes[i][0], sizes[i][1])) {
                PairedViews x = Check.with(0, lands[i]);
                Check.due(lands[i] + " hours of seed " + due[0], x.drawn(0, due[0], due[1], 0), due[2]);
                Check.due(lands[i] + " WORDS of seed " + due[0], x.drawn(0, due[0], due[1], 2), due[3]);
                Check.due(lands[i] + " FORGED of seed " + due[0], x.drawn(0, due[0], due[1], 3), due[4]);
                Check.due(lands[i] + " looked of seed " + due[0], x.drawn(0, due[0], due[1], 4), due[5]);
            }
        }
    }

    private static void noneDrawn() {
        Check.by("-2: there is none such, another n, or for another what.");
        PairedViews x = Check.with(0, QUIET);
        for (int n : new int[] {-1, -2, 61, 62, Integer.MAX_VALUE, Integer.MIN_VALUE}) {
            Check.due("drawn " + n + " times", x.drawn(0, 1, n, 0), -2);
        }
        for (int at : new int[] {-1, 1, 2, Integer.MAX_VALUE, Integer.MIN_VALUE}) {
            Check.due("country " + at, x.drawn(at, 1, 1, 0), -2);
        }
        Check.due("no times", x.drawn(0, 1, 0, 0), 0);
        Check.due("no times, SOLID", x.drawn(0, 1, 0, 10), 50);
        PairedViews y = Check.with(0, "thing 0 0 0;");
        Check.due("FALL has been, no times", y.drawn(0, 1, 0, 1), 1);
    }

    /** What was asked leaves nothing that a later answer shows. */
    private static void nothingIsLeft() {
        Check.by("A YEAR of a COUNTRY begins at hour 0, all as told, nobody having WORDS; then FALL.");
        PairedViews x = Check.with("thing 1 0 1;thing 9 0 0;left 1;right 9;couple 0 0;", "look 0 1;words 0;mirror 1;hour;");
        Check.tell(x, 1, NONE, "");
        for (int what = 0; what < 4; what++) {
            Check.due("the first YEAR, " + what, x.after(0, 0, what), new int[] {1, 3, 0, 2}[what]);
            Check.due("the empty YEAR, " + what, x.after(0, 1, what), new int[] {0, NONE, NONE, 0}[what]);
        }
        for (int what = 0; what < 5; what++) {
            Check.due("the first YEAR, state " + what, x.state(0, 0, 4, what), new int[] {1, 1, 1, 2, 0}[what]);
            Check.due("the empty YEAR, state " + what, x.state(0, 1, 0, what), 0);
            Check.due("looked, of the first YEAR", x.state(0, 0, 1, 4), 1);
            Check.due("drawn no times, " + what, x.drawn(0, 3, 0, what), 0);
        }
    }
}
