/** Sentence by sentence: promises 6, 10 to 15 and 21 to 24, with what Terms 1, 3 and 6 say of COUNTRIES. */
final class EdgesOfCountriesTest {
    private static final int NONE = PairedViews.NONE;
    private static final int[] FAR = {-3, -2, -1, 8, 9, 31, 32, 33, 40, Integer.MAX_VALUE, Integer.MIN_VALUE};
    private static final String FOUR = Check.times(4, "left 1;right 1;");

    public static void main(String[] args) {
        everyWhat();
        atFirst();
        laterOnesStrike();
        furtherOnes();
        bothWays();
        fallHavingBeen();
        lasts();
        noLasts();
        watchMostThings();
        watchMostSolid();
        watchFirstRow();
        noWatch();
        way();
        wayWhileItThins();
        noWay();
        surest();
        married();
        noneMarried();
        unhappy();
        agree();
        noAgreement();
        need();
        noNeed();
        keystone();
        heights();
        served();
        parts();
        paired();
        noHeight();
        meet();
        noMeeting();
        Check.finish();
    }

    private static void everyWhat() {
        Check.by("-2: there is none such (of any), or for another what.");
        // As many of each as a bit of the number says: none, one, or all there may be.
        for (int full = 0; full < 3; full++) {
            int things = new int[] {0, 1, 8}[full];
            int paths = new int[] {0, 0, 12}[full];
            int eyes = new int[] {0, 1, 4}[full];
            StringBuilder text = new StringBuilder(Check.times(things, "thing 5 0 0;") + Check.times(paths, "path 0 1;"));
            text.append(Check.times(eyes, "left 3;right 4;"));
            for (int c = 0; c < eyes; c++) {
                text.append("couple ").append(c).append(' ').append(c).append(';');
            }
            PairedViews x = Check.with(0, text.toString());
            for (int what = -5; what < 200; what++) {
                Check.due("what " + what + " of " + text, x.country(0, what) != -2, isWhat(what, things, paths, eyes));
            }
            for (int far : new int[] {-100, 1000, Integer.MAX_VALUE, Integer.MIN_VALUE}) {
                Check.due("what " + far, x.country(0, far), -2);
                Check.due("country " + far, x.country(far, 0), -2);
            }
        }
    }

    private static boolean isWhat(int what, int things, int paths, int eyes) {
        boolean plain = what >= 0 && what < 6;
        boolean ofThing = what >= 10 && what < 50 && what % 10 < things;
        boolean ofEye = what >= 50 && what < 90 && what % 10 < eyes;
        boolean ofPath = what >= 100 && what < 140 && what % 20 < paths;
        boolean ofLikes = what >= 140 && what < 180 && what % 20 / 4 < eyes && what % 4 < eyes;
        return plain || ofThing || ofEye || ofPath || ofLikes;
    }

    private static void atFirst() {
        Check.by("0 .. 9 (0 at first); HAND, 0 .. 9 (3 at first)");
        PairedViews x = Check.with(0, FOUR);
        for (int i = 0; i < 16; i++) {
            Check.due("LIKES", x.country(0, 140 + i), 0);
            Check.due("LIKES back", x.country(0, 160 + i), 0);
        }
        Check.due("HAND", x.country(0, 5), 3);
        Check.due("HAND of nothing", Check.with(0, "").country(0, 5), 3);
        for (int hand = 0; hand < 10; hand++) {
            Check.due("HAND " + hand, Check.with(0, "hand " + hand + ";").country(0, 5), hand);
        }
        Check.by("40 + t: on which it RESTS (NONE)");
        Check.due("RESTS on none", Check.with(0, "thing 1 0 0;").country(0, 40), NONE);
        Check.due("RESTS on 0", Check.with(0, "thing 1 0 0;thing 1 0 0;rests 1 0;").country(0, 41), 0);
        Check.by("how much a LEFT one LIKES a RIGHT one, a RIGHT one a LEFT one");
        for (int l = 0; l < 4; l++) {
            for (int r = 0; r < 4; r++) {
                PairedViews y = Check.with(0, FOUR + "likes " + l + " " + r + " 9;liked " + r + " " + l + " 8;");
                for (int i = 0; i < 16; i++) {
                    Check.due("LIKES " + i, y.country(0, 140 + i), i == 4 * l + r ? 9 : 0);
                    Check.due("LIKES back " + i, y.country(0, 160 + i), i == 4 * r + l ? 8 : 0);
                }
            }
        }
    }

    private static void laterOnesStrike() {
        Check.by("Later ones strike (what the same THING RESTS on, too)");
        PairedViews x = Check.with(0, "hand 1;hand 9;hand 2;" + FOUR + "likes 1 2 9;likes 1 2 0;likes 2 1 3;liked 1 2 4;liked 1 2 5;"
            + Check.times(4, "thing 9 0 0;") + "rests 0 1;rests 0 2;rests 3 2;rests 0 3;");
        Check.due("HAND", x.country(0, 5), 2);
        Check.due("LIKES 1 2", x.country(0, 146), 0);
        Check.due("LIKES 2 1", x.country(0, 149), 3);
        Check.due("LIKES back 1 2", x.country(0, 166), 5);
        Check.due("LIKES back 2 1", x.country(0, 169), 0);
        Check.due("RESTS 0", x.country(0, 40), 3);
        Check.due("RESTS 3", x.country(0, 43), 2);
        Check.due("three high: 0 on 3 on 2", x.height(0, 0), 3);
    }

    private static void furtherOnes() {
        Check.by("THINGS, PATHS, LEFT and RIGHT ones, COUPLES, DEEDS, VIEWS, FACTS, which are further ones");
        PairedViews x = Check.with(0, "thing 9 1 0;thing 9 1 0;path 0 1;path 0 1;path 1 0;left 2;left 2;right 2;right 2;couple 0 1;couple 1 0;");
        int[] want = {2, 3, 2, 2, 2};
        for (int what = 0; what < 5; what++) {
            Check.due("how many of " + what, x.country(0, what), want[what]);
        }
        Check.due("the PATH as it was told", x.country(0, 102), 1);
        Check.due("to where", x.country(0, 122), 0);
        Check.due("the RIGHT one of COUPLE 0", x.country(0, 80), 1);
        Check.due("DEEDS", Check.with(1, "hour;hour;words 0;words 0;").deed(0, NONE, 0), 4);
        Check.due("VIEWS", Check.with(2, "left 1;left 1;").view(0, NONE, 0), 2);
        Check.due("FACTS", Check.with(3, "still 1;still 1;looked 1 1;looked 1 1;").fact(0, NONE, 0), 4);
    }

    private static void bothWays() {
        Check.by("PATHS between two THINGS (both ways)");
        for (int a = 0; a < 8; a++) {
            for (int b = 0; b < 8; b++) {
                if (a != b) {
                    PairedViews x = Check.with(0, Check.times(8, "thing 9 0 0;") + "path " + a + " " + b + ";");
                    String name = " along path " + a + " " + b;
                    Check.due("way there" + name, x.way(0, a, b, false), 1);
                    Check.due("way back" + name, x.way(0, b, a, false), 1);
                    Check.due("surest there" + name, x.way(0, a, b, true), 9);
                    Check.due("surest back" + name, x.way(0, b, a, true), 9);
                    Check.due("meet" + name, x.meet(0, a, b), 1);
                    Check.due("meet, the other first" + name, x.meet(0, b, a), 1);
                    Check.due("PARTS" + name, x.height(0, 2), 7);
                    Check.due("the largest" + name, x.height(0, 3), 2);
                }
            }
        }
    }

    /** 0 can't bear 1, and falls with it: 2 and 3 are left. */
    private static void fallHavingBeen() {
        Check.by("(Of a COUNTRY as told, FALL having been.)");
        PairedViews x = Check.with("thing 5 0 0;thing 9 6 0;thing 2 0 1;thing 9 0 0;rests 1 0;path 0 2;path 2 3;path 3 1;path 1 0;"
            + "left 1;right 1;couple 0 0;", "mirror 2;hour;look 0 3;");
        for (int round = 0; round < 2; round++) {
            int[] lasts = {0, 0, 2, NONE};
            for (int t = 0; t < 4; t++) {
                Check.due("lasts " + t, x.lasts(0, t), lasts[t]);
                Check.due("way from 0 to " + t, x.way(0, 0, t, false), NONE);
                Check.due("way from " + t + " to 1", x.way(0, t, 1, false), NONE);
                Check.due("surest from 0 to " + t, x.way(0, 0, t, true), NONE);
                Check.due("meet 1 and " + t, x.meet(0, 1, t), NONE);
            }
            Check.due("surest 2 3", x.way(0, 2, 3, true), 2);
            Check.due("watch: how many", x.watch(0, NONE), 2);
            Check.due("watch: how much", x.watch(0, -2), 13);
            Check.due("watch: at what", x.watch(0, 0), 2);
            Check.due("keystone", x.keystone(0, false), 2);
            Check.due("its others", x.keystone(0, true), 0);
            Check.due("height", x.height(0, 0), 1);
            Check.due("SERVED", x.height(0, 1), 0);
            Check.due("PARTS", x.height(0, 2), 1);
            Check.due("the largest", x.height(0, 3), 2);
            // As told, whatever was done in a YEAR of it meanwhile.
            Check.due("a YEAR", x.state(0, 0, 3, 13), 11);
            Check.due("one DRAWN", x.drawn(0, 5, 60, 1) >= 0, true);
        }
    }

    private static void lasts(String land, int... want) {
        PairedViews x = Check.with(0, land);
        for (int t = 0; t < want.length; t++) {
            Check.due("lasts " + t + " of " + land, x.lasts(0, t), want[t]);
        }
    }

    private static void lasts() {
        Check.by("behind how many hours, 0 .. 99, nobody looking, it is GONE (0: already; else the fewest)");
        lasts("thing 0 0 0;thing 1 0 1;thing 1 0 9;thing 2 0 1;thing 9 0 9;thing 10 0 9;thing 99 0 1;thing 99 0 0;",
            0, 1, 1, 2, 1, 2, 99, NONE);
        lasts("thing 98 0 1;thing 99 0 2;thing 98 0 2;thing 99 0 9;thing 1 0 0;", 98, 50, 49, 11, NONE);
        // It goes with what it rests on, and with what it can no longer bear.
        lasts("thing 3 0 1;thing 99 0 0;thing 9 5 1;thing 99 5 0;rests 1 0;rests 3 2;", 3, 3, 5, 5);
        lasts("thing 3 0 0;thing 9 4 0;rests 1 0;", 0, 0);
        // Relieved by what is GONE earlier, it lasts as long as its SOLID.
        lasts("thing 2 5 1;thing 9 0 1;rests 0 1;", 2, 9);
        lasts("thing 9 0 1;thing 2 5 1;rests 1 0;", 9, 2);
    }

    private static void noLasts() {
        Check.by("NONE: longer than 99, or there is none such (of either).");
        PairedViews x = Check.with(0, "thing 5 0 1;");
        Check.due("lasts 0", x.lasts(0, 0), 5);
        for (int far : FAR) {
            Check.due("thing " + far, x.lasts(0, far), NONE);
            Check.due("country " + far, x.lasts(far, 0), NONE);
        }
        Check.due("thing 1", x.lasts(0, 1), NONE);
        Check.due("country 1", x.lasts(1, 0), NONE);
        Check.due("for ever", Check.with(0, "thing 5 0 0;").lasts(0, 0), NONE);
    }

    private static void watched(String land, int things, int solid, int... row) {
        PairedViews x = Check.with(0, land);
        Check.due("how many of " + land, x.watch(0, NONE), things);
        Check.due("how much of " + land, x.watch(0, -2), solid);
        for (int c = 0; c < row.length; c++) {
            Check.due("COUPLE " + c + " of " + land, x.watch(0, c), row[c]);
        }
        for (int c = row.length; c < 6; c++) {
            Check.due("no COUPLE " + c + " of " + land, x.watch(0, c), NONE);
        }
    }

    private static void watchMostThings() {
        Check.by("so that most THINGS are there then");
        String couple = "left 1;right 1;couple 0 0;";
        watched("thing 1 0 1;thing 99 0 9;" + couple, 2, 93, 0);
        watched("thing 99 0 9;thing 1 0 1;" + couple, 2, 93, 1);
        watched("thing 1 0 1;thing 1 0 1;" + couple, 1, 3, 0);
        // What is below saves what is above.
        watched("thing 9 1 0;thing 1 0 1;thing 1 0 1;thing 3 0 0;rests 0 2;" + couple, 3, 15, 2);
        Check.by("each COUPLE looks at a THING that is there, or at none, no two at one");
        watched("thing 0 0 0;" + couple, 0, 0, 8);
        watched("thing 0 0 0;thing 5 0 1;" + couple, 1, 7, 1);
        watched(Check.times(8, "thing 1 0 1;") + FOUR + "couple 0 0;couple 1 1;couple 2 2;couple 3 3;", 4, 12, 0, 1, 2, 3);
        watched("thing 1 0 1;thing 1 0 1;" + FOUR + "couple 0 0;couple 1 1;couple 2 2;couple 3 3;", 2, 6, 0, 1, 8, 8);
        watched("thing 50 0 0;" + FOUR + "couple 0 0;couple 1 1;couple 2 2;couple 3 3;", 1, 52, 0, 8, 8, 8);
        watched("", 0, 0);
        watched("thing 5 0 2;left 1;right 1;", 1, 3);
    }

    private static void watchMostSolid() {
        Check.by("of these that their SOLID together is most");
        String couple = "left 1;right 1;couple 0 0;";
        watched("thing 50 0 3;thing 50 0 9;thing 50 0 5;" + couple, 3, 50 + 47 + 45 + 2, 1);
        // 99 at most: a look at what is nearly full is worth less.
        watched("thing 98 0 0;thing 50 0 0;" + couple, 2, 150, 1);
        watched("thing 99 0 0;" + couple, 1, 99, 0);
        // What is GONE then counts for nothing, though it had SOLID.
        watched("thing 3 0 1;thing 40 3 0;thing 1 0 1;thing 1 0 1;rests 1 0;" + couple, 2, 45, 0);
        watched("thing 3 0 1;thing 40 3 0;thing 9 0 0;rests 1 0;", 1, 9);
        // The better eyes go where they are worth most.
        watched("thing 9 0 9;thing 9 0 0;left 9;left 1;right 9;right 1;couple 0 0;couple 1 1;", 2, 9 + 18 + 9 + 2, 0, 1);
        watched("thing 95 0 0;thing 9 0 0;left 9;left 1;right 9;right 1;couple 0 0;couple 1 1;", 2, 97 + 27, 1, 0);
        // A smaller COUNTRY asked behind a larger one.
        PairedViews x = Check.with(0, Check.times(8, "thing 99 0 0;"));
        Check.tell(x, 0, NONE, "thing 3 0 1;");
        Check.due("the larger", x.watch(0, NONE), 8);
        Check.due("the smaller", x.watch(1, NONE), 1);
        Check.due("the smaller, how much", x.watch(1, -2), 2);
        Check.due("the larger again, how much", x.watch(0, -2), 8 * 99);
        Check.due("the smaller, SERVED", x.height(1, 1), 0);
        Check.due("the smaller, how much", x.watch(1, -2), 2);
    }

    private static void watchFirstRow() {
        Check.by("at what each COUPLE looks, the first row by numbers (8: none)");
        String couples = "left 1;left 1;right 1;right 1;couple 0 0;couple 1 1;";
        watched("thing 5 0 0;thing 5 0 0;thing 5 0 0;" + couples, 3, 19, 0, 1);
        watched("thing 99 0 0;thing 5 0 0;" + couples, 2, 106, 0, 1);
        watched("thing 5 0 0;thing 99 0 0;" + couples, 2, 106, 0, 1);
        watched("thing 5 0 0;" + couples, 1, 7, 0, 8);
        watched("thing 5 0 0;left 1;left 1;right 1;right 2;couple 0 0;couple 1 1;", 1, 8, 8, 0);
        watched(couples, 0, 0, 8, 8);
        // A GIANT would be too heavy for what is below: none looks at it, but elsewhere, or at none.
        watched("thing 1 0 0;thing 99 1 0;rests 1 0;left 1;right 9;couple 0 0;", 2, 110, 0);
        watched("thing 99 9 0;thing 99 9 0;thing 99 9 0;thing 9 0 0;rests 0 3;left 1;right 9;couple 0 0;", 4, 316, 3);
        // Of 8 and 1 the row with 1: a look at what is full already is as good as none, and ahead of it.
        watched("thing 99 0 0;thing 99 0 0;" + couples, 2, 198, 0, 1);
        watched("thing 99 9 0;thing 2 2 0;thing 99 2 0;rests 2 1;left 1;right 9;couple 0 0;", 3, 99 + 12 + 99, 1);
    }

    private static void noWatch() {
        Check.by("NONE: there is none such (of either).");
        PairedViews x = Check.with(0, "thing 5 0 0;left 1;right 1;couple 0 0;");
        Check.due("COUPLE 0", x.watch(0, 0), 0);
        for (int k : new int[] {1, 2, 3, 4, 5, 32, Integer.MAX_VALUE, -3, -4, Integer.MIN_VALUE}) {
            Check.due("watch " + k, x.watch(0, k), NONE);
        }
        for (int at : new int[] {-1, 1, 2, Integer.MAX_VALUE, Integer.MIN_VALUE}) {
            Check.due("country " + at, x.watch(at, 0), NONE);
            Check.due("country " + at + ", how many", x.watch(at, NONE), NONE);
            Check.due("country " + at + ", how much", x.watch(at, -2), NONE);
        }
    }

    private static void ways(String land, int... hours) {
        PairedViews x = Check.with(0, land);
        for (int t = 0; t < hours.length; t++) {
            Check.due("way 0 " + t + " of " + land, x.way(0, 0, t, false), hours[t]);
        }
    }

    private static void way() {
        Check.by("in each hour one goes along a PATH to another THING, or stays");
        ways("thing 9 0 0;thing 9 0 0;", 0, NONE);
        ways("thing 9 0 0;thing 9 0 0;path 0 1;", 0, 1);
        ways("thing 9 0 0;thing 9 0 0;path 1 0;", 0, 1);
        ways(Check.times(8, "thing 9 0 0;") + "path 0 1;path 1 2;path 2 3;path 3 4;path 4 5;path 5 6;path 6 7;", 0, 1, 2, 3, 4, 5, 6, 7);
        Check.by("the fewest hours, 99 at most");
        ways(Check.times(6, "thing 9 0 0;") + "path 0 1;path 1 2;path 2 3;path 3 4;path 4 5;path 5 0;", 0, 1, 2, 3, 2, 1);
        ways(Check.times(4, "thing 9 0 0;") + "path 0 1;path 1 2;path 2 3;path 3 0;path 0 2;path 0 2;", 0, 1, 1, 1);
    }

    private static void wayWhileItThins() {
        Check.by("one must be on a THING that is there behind each hour");
        // One leaves what goes in the same hour; one does not come to what goes in the same hour.
        ways("thing 1 0 1;thing 9 0 0;path 0 1;", 0, 1);
        ways("thing 9 0 0;thing 1 0 1;path 0 1;", 0, NONE);
        ways("thing 9 0 0;thing 2 0 1;path 0 1;", 0, 1);
        ways("thing 9 0 0;thing 2 0 1;thing 9 0 0;path 0 1;path 1 2;", 0, 1, 2);
        ways("thing 9 0 0;thing 1 0 1;thing 9 0 0;path 0 1;path 1 2;", 0, NONE, NONE);
        ways("thing 9 0 0;thing 9 0 0;thing 2 0 1;path 0 1;path 1 2;", 0, 1, NONE);
        ways("thing 9 0 0;thing 9 0 0;thing 3 0 1;path 0 1;path 1 2;", 0, 1, 2);
        // The short way is GONE: the long one.
        ways("thing 9 0 0;thing 1 0 1;thing 9 0 0;thing 9 0 0;thing 9 0 0;path 0 1;path 1 2;path 0 3;path 3 4;path 4 2;", 0, NONE, 3, 1, 2);
        // What it rests on goes, and it with it.
        ways("thing 9 0 0;thing 9 0 0;thing 1 0 1;rests 1 2;path 0 1;", 0, NONE, NONE);
        // One stands where one is as it goes: to nowhere any more.
        ways("thing 1 0 1;thing 9 0 0;thing 9 0 0;path 1 2;", 0, NONE, NONE);
        PairedViews x = Check.with(0, "thing 0 0 0;thing 9 0 0;path 0 1;");
        Check.due("to what is GONE", x.way(0, 1, 0, false), NONE);
    }

    private static void noWay() {
        Check.by("NONE: there is none (in 99 hours), or there is none such (of any).");
        PairedViews x = Check.with(0, Check.times(3, "thing 9 0 0;") + "path 0 1;");
        for (int sure = 0; sure < 2; sure++) {
            boolean surest = sure == 1;
            Check.due("no PATH", x.way(0, 0, 2, surest), NONE);
            Check.due("no PATH back", x.way(0, 2, 0, surest), NONE);
            for (int far : FAR) {
                Check.due("from " + far, x.way(0, far, 0, surest), NONE);
                Check.due("to " + far, x.way(0, 0, far, surest), NONE);
                Check.due("from and to " + far, x.way(0, far, far, surest), NONE);
                Check.due("country " + far, x.way(far, 0, 0, surest), NONE);
            }
            Check.due("from 3", x.way(0, 3, 0, surest), NONE);
            Check.due("to 3", x.way(0, 0, 3, surest), NONE);
            Check.due("from 3 to 3", x.way(0, 3, 3, surest), NONE);
            Check.due("country 1", x.way(1, 0, 0, surest), NONE);
        }
    }

    private static void sure(String land, int from, int to, int want) {
        PairedViews x = Check.with(0, land);
        Check.due("surest " + from + " " + to + " of " + land, x.way(0, from, to, true), want);
        Check.due("surest " + to + " " + from + " of " + land, x.way(0, to, from, true), want);
    }

    private static void surest() {
        Check.by("that by which the least SOLID of all THINGS on it (both ends, too) is most: how much");
        sure("thing 7 0 0;", 0, 0, 7);
        sure("thing 7 0 0;thing 9 0 0;path 0 1;", 0, 1, 7);
        sure("thing 9 0 0;thing 5 0 0;thing 9 0 0;path 0 1;path 1 2;", 0, 2, 5);
        sure("thing 99 0 0;thing 99 0 0;path 0 1;", 0, 1, 99);
        sure("thing 1 0 0;thing 1 0 0;path 0 1;", 0, 1, 1);
        // The longer way is the surer one.
        sure("thing 9 0 0;thing 9 0 0;thing 3 0 0;thing 8 0 0;thing 7 0 0;path 0 2;path 2 1;path 0 3;path 3 4;path 4 1;", 0, 1, 7);
        sure("thing 9 0 0;thing 9 0 0;thing 3 0 0;thing 8 0 0;thing 2 0 0;path 0 2;path 2 1;path 0 3;path 3 4;path 4 1;", 0, 1, 3);
        // All twelve PATHS, the last one, too.
        sure(Check.times(8, "thing 9 0 0;") + Check.times(11, "path 0 1;") + "path 0 2;", 0, 2, 9);
        sure(Check.times(8, "thing 9 0 0;") + Check.times(12, "path 0 1;"), 0, 2, NONE);
        Check.by("of ways along PATHS over THINGS that are there, at once");
        // At once: what thins is as SOLID as told.
        sure("thing 9 0 9;thing 4 0 9;thing 9 0 9;path 0 1;path 1 2;", 0, 2, 4);
        sure("thing 0 0 0;", 0, 0, NONE);
        sure("thing 9 0 0;thing 0 0 0;thing 9 0 0;path 0 1;path 1 2;", 0, 2, NONE);
        // What fell in though it was SOLID is no way, no beginning, no end.
        String fallen = "thing 5 0 0;thing 9 6 0;thing 9 0 0;thing 9 0 0;rests 1 0;path 2 0;path 0 3;path 1 2;";
        sure(fallen, 0, 0, NONE);
        sure(fallen, 1, 1, NONE);
        sure(fallen, 0, 2, NONE);
        sure(fallen, 1, 2, NONE);
        sure(fallen, 2, 3, NONE);
    }

    private static void married(String land, int[] lefts, int[] rights) {
        PairedViews x = Check.with(0, land);
        for (int l = 0; l < lefts.length; l++) {
            Check.due("LEFT " + l + " of " + land, x.married(0, l, false), lefts[l]);
        }
        for (int r = 0; r < rights.length; r++) {
            Check.due("RIGHT " + r + " of " + land, x.married(0, r, true), rights[r]);
        }
        Check.due("no more LEFT ones", x.married(0, lefts.length, false), -2);
        Check.due("no more RIGHT ones", x.married(0, rights.length, true), -2);
    }

    private static void married() {
        Check.by("LEFT ones ask RIGHT ones one behind the other, those they LIKE most first, of several the least");
        married(FOUR, new int[] {0, 1, 2, 3}, new int[] {0, 1, 2, 3});
        married("left 1;right 1;right 1;", new int[] {0}, new int[] {0, NONE});
        married("left 1;right 1;right 1;likes 0 1 1;", new int[] {1}, new int[] {NONE, 0});
        married("left 1;right 1;right 1;right 1;likes 0 1 9;likes 0 2 9;", new int[] {1}, new int[] {NONE, 0, NONE});
        Check.by("a RIGHT one keeps whom it LIKES most of those that asked, of several the least");
        married("left 1;left 1;right 1;", new int[] {0, NONE}, new int[] {0});
        married("left 1;left 1;right 1;liked 0 1 1;", new int[] {NONE, 0}, new int[] {1});
        married("left 1;left 1;left 1;right 1;liked 0 1 1;liked 0 2 1;", new int[] {NONE, 0, NONE}, new int[] {1});
        // One who has asked all in vain asks no more, but the others ask on.
        married("left 1;left 1;left 1;right 1;liked 0 1 5;liked 0 2 9;", new int[] {NONE, NONE, 0}, new int[] {2});
        married("left 1;left 1;left 1;left 1;right 1;liked 0 1 5;liked 0 2 6;liked 0 3 9;", new int[] {NONE, NONE, NONE, 0}, new int[] {3});
        // It never has one who did not ask, however much it LIKES him.
        married("left 1;left 1;right 1;right 1;likes 1 1 5;liked 0 1 9;", new int[] {0, 1}, new int[] {0, 1});
        // The least of several, though he asks only when another has left him.
        married("left 1;left 1;left 1;right 1;right 1;likes 0 0 9;likes 0 1 5;likes 1 1 9;likes 2 0 9;liked 0 2 9;",
            new int[] {1, NONE, 0}, new int[] {2, 0});
        // All LIKE in one order, each RIGHT one LIKES the later ones more: as many askings as there may be.
        StringBuilder chase = new StringBuilder(FOUR);
        for (int l = 0; l < 4; l++) {
            for (int r = 0; r < 4; r++) {
                chase.append("likes ").append(l).append(' ').append(r).append(' ').append(9 - r).append(';');
                chase.append("liked ").append(r).append(' ').append(l).append(' ').append(l).append(';');
            }
        }
        married(chase.toString(), new int[] {3, 2, 1, 0}, new int[] {3, 2, 1, 0});
        // Thirteen askings, the most there can be of four and four.
        married(rows(new int[][] {{7, 5, 2, 9}, {7, 9, 2, 5}, {9, 7, 2, 5}, {5, 7, 2, 9}},
            new int[][] {{7, 5, 2, 9}, {9, 7, 5, 2}, {5, 2, 7, 9}, {7, 2, 9, 5}}), new int[] {1, 2, 3, 0}, new int[] {3, 0, 1, 2});
        Check.by("whom each has in the end (none: none)");
        married("left 1;left 1;", new int[] {NONE, NONE}, new int[] {});
        married("right 1;right 1;", new int[] {}, new int[] {NONE, NONE});
        married("", new int[] {}, new int[] {});
        married(FOUR.substring(0, 15) + "left 1;", new int[] {0, NONE}, new int[] {0});
    }

    /** How much LEFT ones LIKE, and RIGHT ones, as a COUNTRY. */
    private static String rows(int[][] likes, int[][] liked) {
        StringBuilder text = new StringBuilder(Check.times(likes.length, "left1;") + Check.times(liked.length, "right1;"));
        for (int l = 0; l < likes.length; l++) {
            for (int r = 0; r < liked.length; r++) {
                text.append("likes ").append(l).append(' ').append(r).append(' ').append(likes[l][r]).append(';');
                text.append("liked ").append(r).append(' ').append(l).append(' ').append(liked[r][l]).append(';');
            }
        }
        return text.toString();
    }

    private static void noneMarried() {
        Check.by("NONE: nobody. -2: there is none such (of either).");
        PairedViews x = Check.with(0, "left 1;left 1;right 1;");
        Check.due("nobody", x.married(0, 1, false), NONE);
        Check.due("LEFT 2", x.married(0, 2, false), -2);
        Check.due("RIGHT 1", x.married(0, 1, true), -2);
        for (int far : new int[] {-1, -2, 4, 5, 32, Integer.MAX_VALUE, Integer.MIN_VALUE}) {
            Check.due("LEFT " + far, x.married(0, far, false), -2);
            Check.due("RIGHT " + far, x.married(0, far, true), -2);
            Check.due("country " + far, x.married(far, 0, false), -2);
            Check.due("country " + far + ", right", x.married(far, 0, true), -2);
        }
        Check.due("country 1", x.married(1, 0, false), -2);
    }

    private static void unhappy(String land, int want) {
        Check.due("unhappy " + land, Check.with(0, land).unhappy(0), want);
    }

    private static void unhappy() {
        Check.by("that are no COUPLE (as told) and would both rather have each other than whom they have");
        String two = "left 1;left 1;right 1;right 1;couple 0 0;couple 1 1;";
        unhappy(two, 0);
        unhappy(two + "likes 0 1 1;liked 1 0 1;", 1);
        unhappy(two + "likes 0 1 1;", 0);
        unhappy(two + "liked 1 0 1;", 0);
        // As much is not rather; less is not, either.
        unhappy(two + "likes 0 0 1;likes 0 1 1;liked 1 0 1;", 0);
        unhappy(two + "likes 0 0 2;likes 0 1 1;liked 1 0 1;", 0);
        unhappy(two + "likes 0 1 1;liked 1 0 1;liked 1 1 1;", 0);
        unhappy(two + "likes 0 1 1;liked 1 0 1;liked 1 1 2;", 0);
        unhappy(two + "likes 0 1 1;liked 1 0 1;likes 1 0 1;liked 0 1 1;", 2);
        // Those in a COUPLE are no pair of the kind, however much they like each other.
        unhappy("left 1;right 1;couple 0 0;likes 0 0 9;liked 0 0 9;", 0);
        Check.by("(one who is in no COUPLE would rather have anybody)");
        unhappy("left 1;right 1;", 1);
        unhappy(FOUR, 16);
        unhappy("left 1;left 1;right 1;couple 0 0;", 0);
        unhappy("left 1;left 1;right 1;couple 0 0;liked 0 1 1;", 1);
        unhappy("left 1;left 1;right 1;couple 0 0;likes 1 0 9;", 0);
        unhappy("left 1;right 1;right 1;couple 0 0;likes 0 1 1;", 1);
        unhappy("left 1;right 1;right 1;couple 0 0;liked 1 0 9;", 0);
        unhappy("left 1;left 1;right 1;right 1;couple 0 1;", 1);
        unhappy(FOUR + "couple 0 0;couple 1 1;", 4);
        unhappy(FOUR + "couple 0 0;couple 1 1;likes 0 3 9;", 5);
        unhappy(FOUR + "couple 0 0;couple 1 1;couple 2 2;couple 3 3;", 0);
        unhappy("", 0);
        unhappy("left 1;left 1;", 0);
        unhappy("right 1;right 1;", 0);
        Check.by("UNHAPPY. NONE: there is none such.");
        PairedViews x = Check.with(0, FOUR);
        for (int at : new int[] {-1, -2, 1, 2, Integer.MAX_VALUE, Integer.MIN_VALUE}) {
            Check.due("country " + at, x.unhappy(at), NONE);
        }
    }

    private static void agree(int a, int b, int c, int hand, int which, int mean) {
        PairedViews x = new PairedViews();
        String call = "agree " + a + " " + b + " " + c + " by " + hand;
        Check.due(call, x.agree(a, b, c, hand, false), which);
        Check.due(call + ", mean", x.agree(a, b, c, hand, true), mean);
    }

    private static void agree() {
        Check.by("the two that differ least, of several the first couple (first and second, first and third, second and third)");
        agree(0, 0, 0, 0, 0, 0);
        agree(99, 99, 99, 9, 0, 99);
        agree(1, 5, 9, 9, 0, 3);
        agree(5, 1, 9, 9, 0, 3);
        agree(1, 9, 5, 9, 1, 3);
        agree(9, 1, 5, 9, 1, 7);
        agree(5, 5, 6, 9, 0, 5);
        agree(5, 6, 5, 9, 1, 5);
        agree(6, 5, 5, 9, 2, 5);
        agree(0, 20, 22, 9, 2, 21);
        Check.by("if by no more than the hand");
        for (int hand = 0; hand < 10; hand++) {
            agree(50, 50 + hand, 0, hand, 0, 50 + hand / 2);
            agree(50, 51 + hand, 0, hand, NONE, NONE);
            agree(50, 0, 50 - hand, hand, 1, 50 - (hand + 1) / 2);
            agree(50, 0, 49 - hand, hand, NONE, NONE);
            agree(0, 90, 90 + hand, hand, 2, 90 + hand / 2);
            agree(0, 89, 90 + hand, hand, NONE, NONE);
        }
        Check.by("their mean, cut");
        agree(0, 1, 50, 1, 0, 0);
        agree(98, 99, 50, 1, 0, 98);
        agree(50, 99, 98, 1, 2, 98);
        agree(7, 50, 10, 3, 1, 8);
    }

    private static void noAgreement() {
        Check.by("NONE: none, or other numbers.");
        agree(0, 0, 0, 0, 0, 0);
        agree(99, 99, 99, 0, 0, 99);
        for (int other : new int[] {-1, -2, 100, 101, Integer.MAX_VALUE, Integer.MIN_VALUE}) {
            agree(other, 5, 5, 9, NONE, NONE);
            agree(5, other, 5, 9, NONE, NONE);
            agree(5, 5, other, 9, NONE, NONE);
            agree(other, other, other, 9, NONE, NONE);
        }
        for (int other : new int[] {-1, -2, 10, 11, 99, Integer.MAX_VALUE, Integer.MIN_VALUE}) {
            agree(5, 5, 5, other, NONE, NONE);
        }
    }

    private static void need(String land, int thing, int n, int want) {
        Check.due("need " + thing + ", " + n + " of " + land, Check.with(0, land).need(0, thing, n), want);
    }

    private static void need() {
        Check.by("the least SOLID, 0 .. 99, with which instead of its own, all others as told, it is there behind n hours");
        need("thing 0 0 0;", 0, 0, 1);
        need("thing 0 0 0;", 0, 99, 1);
        need("thing 99 0 0;", 0, 0, 1);
        need("thing 0 0 9;", 0, 0, 1);
        need("thing 0 0 9;", 0, 1, 10);
        for (int n = 0; n < 100; n++) {
            need("thing 5 0 1;", 0, n, n < 99 ? n + 1 : NONE);
            need("thing 5 0 2;", 0, n, n < 50 ? 2 * n + 1 : NONE);
        }
        // It must bear what is on it.
        for (int weight = 0; weight < 10; weight++) {
            String land = "thing 0 0 0;thing 5 " + weight + " 0;rests 1 0;";
            need(land, 0, 0, Math.max(1, weight));
            need(land, 0, 99, Math.max(1, weight));
        }
        String tower = Check.times(8, "thing 99 9 1;") + "rests 7 6;rests 6 5;rests 5 4;rests 4 3;rests 3 2;rests 2 1;rests 1 0;";
        need(tower, 0, 0, 63);
        need(tower, 0, 36, 99);
        need(tower, 0, 37, NONE);
        need(tower, 7, 36, 37);
        // Others as told: behind what 0 can bear, 37 hours long, 7 is GONE whatever it is.
        need(tower, 7, 37, NONE);
        // What fell in by its own old SOLID is there with another.
        need("thing 0 0 0;thing 9 9 0;rests 1 0;", 0, 0, 9);
        need("thing 0 0 0;thing 9 9 0;rests 1 0;", 1, 0, NONE);
        need("thing 9 0 0;thing 0 9 0;rests 1 0;", 1, 5, 1);
        need("thing 8 0 0;thing 0 9 0;rests 1 0;", 1, 0, NONE);
    }

    private static void noNeed() {
        Check.by("NONE: not by 99, other hours, or there is none such (of either).");
        PairedViews x = Check.with(0, "thing 5 0 0;");
        Check.due("99 hours", x.need(0, 0, 99), 1);
        for (int n : new int[] {100, 101, 127, 128, Integer.MAX_VALUE, -1, -2, Integer.MIN_VALUE}) {
            Check.due("hours " + n, x.need(0, 0, n), NONE);
        }
        for (int far : FAR) {
            Check.due("thing " + far, x.need(0, far, 0), NONE);
            Check.due("country " + far, x.need(far, 0, 0), NONE);
        }
        Check.due("thing 1", x.need(0, 1, 0), NONE);
        Check.due("country 1", x.need(1, 0, 0), NONE);
        need("thing 9 0 1;", 0, 98, 99);
        need("thing 9 0 1;", 0, 99, NONE);
    }

    private static void keystone(String land, int stone, int others) {
        PairedViews x = Check.with(0, land);
        Check.due("keystone of " + land, x.keystone(0, false), stone);
        Check.due("keystone of " + land + ", many", x.keystone(0, true), others);
    }

    private static void keystone() {
        Check.by("the THING that is there with which most others that are there FALL IN, if it does, of several the least; how many others");
        keystone("thing 1 0 0;", 0, 0);
        keystone("thing 1 0 0;thing 1 0 0;", 0, 0);
        keystone("thing 0 0 0;thing 1 0 0;thing 1 0 0;", 1, 0);
        keystone("thing 9 0 0;thing 9 0 0;rests 0 1;", 1, 1);
        keystone("thing 9 0 0;thing 9 0 0;rests 1 0;", 0, 1);
        keystone(Check.times(4, "thing 9 0 0;") + "rests 0 3;rests 1 2;", 2, 1);
        keystone(Check.times(4, "thing 9 0 0;") + "rests 0 1;rests 1 2;rests 2 3;", 3, 3);
        keystone(Check.times(8, "thing 9 0 0;") + "rests 0 7;rests 1 7;rests 2 7;rests 3 7;rests 4 7;rests 5 7;rests 6 7;", 7, 7);
        // What is GONE does not count: neither as the stone, nor with it.
        keystone("thing 9 0 0;thing 9 0 0;thing 0 0 0;thing 0 0 0;thing 9 0 0;rests 2 0;rests 3 0;rests 4 1;", 1, 1);
        keystone("thing 5 0 0;thing 9 6 0;thing 9 0 0;rests 1 0;", 2, 0);
        Check.by("NONE: none is there. -2: there is none such.");
        keystone("", NONE, NONE);
        keystone("thing 0 0 0;", NONE, NONE);
        keystone("thing 5 0 0;thing 9 6 0;rests 1 0;", NONE, NONE);
        PairedViews x = Check.with(0, "thing 1 0 0;");
        for (int at : new int[] {-1, -2, 1, 2, Integer.MAX_VALUE, Integer.MIN_VALUE}) {
            Check.due("country " + at, x.keystone(at, false), -2);
            Check.due("country " + at + ", many", x.keystone(at, true), -2);
        }
    }

    private static void height(String land, int what, int want) {
        Check.due("height " + what + " of " + land, Check.with(0, land).height(0, what), want);
    }

    private static void heights() {
        Check.by("the longest row of THINGS that are there, each of which RESTS on the next: how many");
        height("", 0, 0);
        height("thing 0 0 0;", 0, 0);
        height("thing 1 0 0;", 0, 1);
        for (int n = 1; n <= 8; n++) {
            StringBuilder up = new StringBuilder(Check.times(n, "thing 9 1 0;"));
            StringBuilder down = new StringBuilder(up);
            for (int t = 1; t < n; t++) {
                up.append("rests ").append(t).append(' ').append(t - 1).append(';');
                down.append("rests ").append(t - 1).append(' ').append(t).append(';');
            }
            height(up.toString(), 0, n);
            height(down.toString(), 0, n);
        }
        height(Check.times(5, "thing 9 1 0;") + "rests 0 4;rests 1 4;rests 2 4;rests 3 4;", 0, 2);
        height(Check.times(5, "thing 9 1 0;") + "rests 0 4;rests 1 3;rests 3 2;", 0, 3);
        // The upper one is GONE alone; the lower one takes all above along.
        height("thing 0 1 0;thing 9 1 0;thing 9 1 0;rests 0 1;rests 1 2;", 0, 2);
        height("thing 9 1 0;thing 9 1 0;thing 0 1 0;thing 9 1 0;rests 0 1;rests 1 2;", 0, 1);
    }

    private static void served() {
        Check.by("the fewest COUPLES that are to look, each at one THING that is there, no two at one, so that all that are there are so behind an hour");
        String couples = FOUR + "couple 0 0;couple 1 1;couple 2 2;couple 3 3;";
        for (int n = 0; n <= 8; n++) {
            height(Check.times(n, "thing 1 0 1;") + couples, 1, n <= 4 ? n : NONE);
            height(Check.times(n, "thing 2 0 1;") + couples, 1, 0);
            height(Check.times(n, "thing 0 0 1;") + couples, 1, 0);
        }
        height("", 1, 0);
        height("thing 1 0 1;", 1, NONE);
        height("thing 1 0 1;left 1;right 1;", 1, NONE);
        // It must still bear what is on it.
        height("thing 3 0 1;thing 9 3 0;rests 1 0;left 1;right 1;couple 0 0;", 1, 1);
        height("thing 4 0 1;thing 9 3 0;rests 1 0;left 1;right 1;couple 0 0;", 1, 0);
        // COUPLE 0 alone will do; of 1 and 2, who see a GIANT, one must look at what is below.
        height("thing 9 3 9;thing 3 0 0;rests 0 1;left 1;left 1;left 1;right 1;right 9;right 9;couple 0 0;couple 1 1;couple 2 2;", 1, 1);
        height("thing 9 3 9;thing 3 0 0;rests 0 1;left 1;left 1;left 1;right 9;right 9;right 1;couple 0 0;couple 1 1;couple 2 2;", 1, 1);
        height("thing 9 3 9;thing 3 0 0;rests 0 1;left 1;left 1;right 9;right 1;couple 0 0;couple 1 1;", 1, 1);
        height("thing 9 3 9;thing 3 0 0;rests 0 1;left 1;left 1;right 9;right 9;couple 0 0;couple 1 1;", 1, 2);
        height("thing 9 3 9;thing 3 0 0;rests 0 1;left 1;right 9;couple 0 0;", 1, NONE);
    }

    private static void parts() {
        Check.by("of THINGS that are there, joined by PATHS between them: how many there are; how many THINGS the largest has");
        int[][] due = {{0, 0}, {1, 1}, {2, 1}, {3, 1}, {4, 1}, {5, 1}, {6, 1}, {7, 1}, {8, 1}};
        for (int n = 0; n <= 8; n++) {
            height(Check.times(n, "thing 9 0 0;"), 2, due[n][0]);
            height(Check.times(n, "thing 9 0 0;"), 3, due[n][1]);
        }
        String line = "path 7 6;path 6 5;path 5 4;path 4 3;path 3 2;path 2 1;path 1 0;";
        height(Check.times(8, "thing 9 0 0;") + line, 2, 1);
        height(Check.times(8, "thing 9 0 0;") + line, 3, 8);
        // A THING that is GONE joins nothing, and is no part.
        String gap = Check.times(3, "thing 9 0 0;") + "thing 0 0 0;" + Check.times(4, "thing 9 0 0;");
        height(gap + line, 2, 2);
        height(gap + line, 3, 4);
        String early = "thing 9 0 0;thing 9 0 0;thing 9 0 0;thing 0 0 0;thing 9 0 0;";
        height(early + "path 0 1;path 1 2;path 2 3;path 3 4;", 2, 2);
        height(early + "path 0 1;path 1 2;path 2 3;path 3 4;", 3, 3);
        height("thing 0 0 0;", 2, 0);
        height("thing 0 0 0;", 3, 0);
        height("thing 9 0 0;thing 9 0 0;path 0 1;path 1 0;path 0 1;", 2, 1);
        height("thing 9 0 0;thing 9 0 0;path 0 1;path 1 0;path 0 1;", 3, 2);
    }

    private static void paired() {
        Check.by("each eye in one at most, whose SIGHTS differ by no more than HAND");
        for (int left = 1; left < 10; left++) {
            for (int right = 1; right < 10; right++) {
                int want = Math.abs(left - right) <= 4 ? 1 : 0;
                height("hand 4;left " + left + ";right " + right + ";", 4, want);
            }
        }
        height("", 4, 0);
        height("left 1;", 4, 0);
        height("right 1;", 4, 0);
        height("hand 0;" + FOUR, 4, 4);
        height("hand 0;" + Check.times(4, "left 1;right 2;"), 4, 0);
        height("hand 0;left 1;left 1;left 1;left 1;right 1;", 4, 1);
        height("hand 0;right 1;right 1;right 1;right 1;left 1;", 4, 1);
        // 3 with 4 would leave 1 without: 1 with 2, 3 with 4 or 2.
        height("hand 1;left 3;left 1;right 2;right 4;", 4, 2);
        height("hand 1;left 3;left 5;left 7;left 9;right 8;right 6;right 4;right 2;", 4, 4);
        height("hand 9;" + Check.times(3, "left 1;") + Check.times(4, "right 9;"), 4, 3);
        // COUPLES as told do not matter.
        height("left 1;left 9;right 1;right 9;couple 0 1;couple 1 0;", 4, 2);
    }

    private static void noHeight() {
        Check.by("-2: there is none such, or for another what.");
        PairedViews x = Check.with(0, "thing 1 0 0;");
        for (int what : new int[] {-1, -2, 5, 6, 10, Integer.MAX_VALUE, Integer.MIN_VALUE}) {
            Check.due("height " + what, x.height(0, what), -2);
        }
        for (int what = 0; what < 5; what++) {
            for (int at : new int[] {-1, -2, 1, 2, Integer.MAX_VALUE, Integer.MIN_VALUE}) {
                Check.due("country " + at, x.height(at, what), -2);
            }
        }
    }

    private static void meets(String land, int a, int b, int want) {
        PairedViews x = Check.with(0, land);
        Check.due("meet " + a + " " + b + " of " + land, x.meet(0, a, b), want);
        Check.due("meet " + b + " " + a + " of " + land, x.meet(0, b, a), want);
    }

    private static void meet() {
        Check.by("two go as on a WAY, one from each: the fewest hours behind which both can be on one THING");
        meets("thing 1 0 1;", 0, 0, 0);
        meets("thing 9 0 0;thing 9 0 0;path 0 1;", 0, 1, 1);
        String line = Check.times(8, "thing 9 0 0;") + "path 0 1;path 1 2;path 2 3;path 3 4;path 4 5;path 5 6;path 6 7;";
        for (int t = 0; t < 8; t++) {
            meets(line, 0, t, (t + 1) / 2);
        }
        // One stays, the other comes.
        meets("thing 9 0 0;thing 1 0 1;path 0 1;", 0, 1, 1);
        // Both must leave what goes, and there is but one place to go.
        meets("thing 1 0 1;thing 1 0 1;thing 9 0 0;path 0 2;path 1 2;", 0, 1, 1);
        meets("thing 1 0 1;thing 1 0 1;path 0 1;", 0, 1, NONE);
        meets("thing 2 0 1;thing 2 0 1;path 0 1;", 0, 1, 1);
        // In the middle it is too late.
        meets("thing 9 0 0;thing 1 0 1;thing 9 0 0;path 0 1;path 1 2;", 0, 2, NONE);
        meets("thing 9 0 0;thing 2 0 1;thing 9 0 0;path 0 1;path 1 2;", 0, 2, 1);
        // One can't get away in time, so the other must come in time.
        meets("thing 3 0 1;thing 9 0 0;thing 9 0 0;thing 9 0 0;path 0 1;path 1 2;path 2 3;", 0, 3, 2);
    }

    private static void noMeeting() {
        Check.by("MEET. NONE: not in 99 hours, or there is none such (of any).");
        PairedViews x = Check.with(0, "thing 9 0 0;thing 9 0 0;thing 9 0 0;path 0 1;");
        Check.due("no PATH", x.meet(0, 0, 2), NONE);
        Check.due("meet", x.meet(0, 0, 1), 1);
        for (int far : FAR) {
            Check.due("a " + far, x.meet(0, far, 0), NONE);
            Check.due("b " + far, x.meet(0, 0, far), NONE);
            Check.due("both " + far, x.meet(0, far, far), NONE);
            Check.due("country " + far, x.meet(far, 0, 0), NONE);
        }
        Check.due("a 3", x.meet(0, 3, 0), NONE);
        Check.due("b 3", x.meet(0, 0, 3), NONE);
        Check.due("both 3", x.meet(0, 3, 3), NONE);
        Check.due("country 1", x.meet(1, 0, 0), NONE);
    }
}
