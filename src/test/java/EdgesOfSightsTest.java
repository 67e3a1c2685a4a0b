/** Sentence by sentence: promises 16 to 19, 26 and 27, with what Terms 4 and 6 say of SIGHTS and QUARRELS. */
final class EdgesOfSightsTest {
    private static final int NONE = PairedViews.NONE;
    private static final int[] FAR = {-3, -2, 200, Integer.MAX_VALUE, Integer.MIN_VALUE};

    public static void main(String[] args) {
        views();
        crossed();
        errors();
        kthAndSure();
        next();
        noFits();
        wrong();
        facts();
        setsThatFit();
        sureAndFewest();
        noWords();
        tell();
        Check.finish();
    }

    private static void views() {
        Check.by("How many VIEWS (k NONE, what 0); of VIEW k, what 0: its way, 1: its COLUMN.");
        String[] ways = {"straight", "right", "left"};
        for (int way = 0; way < 3; way++) {
            for (int column = 0; column < 10; column++) {
                PairedViews x = Check.with(2, "left 5;" + ways[way] + " " + column + ";");
                Check.due("way", x.view(0, 1, 0), way);
                Check.due("COLUMN", x.view(0, 1, 1), column);
            }
        }
        for (int n = 0; n <= 8; n++) {
            PairedViews x = Check.with(2, Check.times(n, "left 5;"));
            Check.due("how many", x.view(0, NONE, 0), n);
            Check.due("no VIEW " + n, x.view(0, n, 0), -2);
            Check.due("no VIEW " + n + ", COLUMN", x.view(0, n, 1), -2);
        }
        Check.by("-2: there is none such (of either), or for another what.");
        PairedViews x = Check.with(2, "left 5;");
        for (int what : new int[] {-1, -2, 2, 3, Integer.MAX_VALUE, Integer.MIN_VALUE}) {
            Check.due("view 0, what " + what, x.view(0, 0, what), -2);
            Check.due("how many, what " + what, x.view(0, NONE, what), -2);
        }
        Check.due("how many, what 1", x.view(0, NONE, 1), -2);
        for (int far : FAR) {
            Check.due("view " + far, x.view(0, far, 0), -2);
            Check.due("sights " + far, x.view(far, 0, 0), -2);
        }
        for (int at = -1; at < 3; at += 2) {
            Check.due("sights " + at, x.view(at, 0, 0), -2);
            Check.due("sights " + at + ", how many", x.view(at, NONE, 0), -2);
        }
    }

    /** Of each VIEW and error, every CELL, by what the words say of its ROW. */
    private static void crossed() {
        Check.by("of one COLUMN more for each ROW and 1 (to the right: ROW 0 is one COLUMN more), of one less likewise (to the left)");
        String[] ways = {"straight ", "right ", "left "};
        for (int way = 0; way < 3; way++) {
            for (int column = 0; column < 10; column++) {
                PairedViews x = Check.with(2, ways[way] + column + ";");
                for (int error = 0; error < 4; error++) {
                    crossedBy(x, way, column, error);
                }
            }
        }
    }

    private static void crossedBy(PairedViews x, int way, int column, int error) {
        int k = 0;
        for (int row = 0; row < 10; row++) {
            int at = column + new int[] {0, row + 1, -row - 1}[way];
            for (int there = Math.max(0, at - error); there <= Math.min(9, at + error); there++) {
                Check.due("CELL " + k + " by way " + way + " from " + column + ", error " + error, x.fits(0, error, 10 + k), 10 * row + there);
                k++;
            }
        }
        Check.due("how many by way " + way + " from " + column + ", error " + error, x.fits(0, error, 0), k);
        Check.due("no more", x.fits(0, error, 10 + k), -2);
    }

    private static void errors() {
        Check.by("a COLUMN (though it be outside the field) that is e or less off");
        // Straight from 0 and from n: by an error e they have CELLS in common up to n = 2 e.
        for (int n = 0; n < 8; n++) {
            PairedViews x = Check.with(2, "straight 0;straight " + n + ";");
            for (int error = 0; error < 4; error++) {
                int columns = Math.max(0, Math.min(error, n + error) - Math.max(0, n - error) + 1);
                Check.due("0 and " + n + " by " + error, x.fits(0, error, 0), 10 * columns);
            }
        }
        // To the right from 9 is outside at once: COLUMN 10 in ROW 0, 11 in ROW 1.
        int[] due = {0, 1, 3, 6};
        for (int error = 0; error < 4; error++) {
            Check.due("right 9 by " + error, Check.with(2, "right 9;").fits(0, error, 0), due[error]);
            Check.due("left 0 by " + error, Check.with(2, "left 0;").fits(0, error, 0), due[error]);
        }
    }

    private static void kthAndSure() {
        Check.by("how many; the k-th, by numbers; SURE: the CELL if it is one in all");
        PairedViews x = Check.with(2, "straight 4;right 1;");
        Check.due("one", x.fits(0, 0, 0), 1);
        Check.due("SURE", x.fits(0, 0, 1), 24);
        Check.due("the first", x.fits(0, 0, 10), 24);
        Check.due("no second", x.fits(0, 0, 11), -2);
        x = Check.with(2, "right 2;left 4;");
        Check.due("CELL 3 is SURE", x.fits(0, 0, 1), 3);
        x = Check.with(2, "left 1;");
        Check.due("CELL 0 is SURE", x.fits(0, 0, 1), 0);
        x = Check.with(2, "straight 0;straight 1;");
        Check.due("none", x.fits(0, 0, 0), 0);
        Check.due("none is SURE", x.fits(0, 0, 1), NONE);
        Check.due("no first", x.fits(0, 0, 10), -2);
        x = Check.with(2, "right 7;");
        Check.due("two", x.fits(0, 0, 0), 2);
        Check.due("neither is SURE", x.fits(0, 0, 1), NONE);
        x = Check.with(2, "");
        for (int k = 0; k < 100; k++) {
            Check.due("all CELLS, " + k, x.fits(0, 3, 10 + k), k);
        }
        Check.due("no more", x.fits(0, 3, 110), -2);
    }

    private static void next(String sights, int error, int want) {
        Check.due("next of " + sights + " by " + error, Check.with(2, sights).fits(0, error, 2), want);
    }

    private static void next() {
        Check.by("the greater number, which it crosses with that error or not, is least, of several the least");
        next("", 0, 0);
        next("", 1, 1);
        next("", 2, 2);
        next("", 3, 1);
        // One CELL: of all VIEWS, which cross it or not, the least.
        next("left 1;", 0, 0);
        next("left 9;straight 8;", 0, 0);
        // CELLS 8 and 19: straight from 8 is the least that crosses but one of them.
        next("right 7;", 0, 8);
        next("left 2;", 0, 0);
        // CELLS 8, 9 and 19, by an error of 2: straight from 6 is the least that crosses one of them.
        next("right 9;", 2, 6);
        // Straight ones cross all of the COLUMN or none, to the right from 0 its CELL in ROW 8.
        next("straight 9;", 0, 10);
        next("straight 1;", 0, 10);
        next("straight 0;", 0, 21);
        // Counted by another program, of each way some.
        int[][] slanting = {{11, 1}, {16, 3}, {20, 3}, {22, 2}, {24, 1}, {27, 1}, {28, 1}, {29, 1}};
        String[] sights = {"right 0;", "straight 7;right 3;", "straight 0;right 0;left 2;", "straight 2;right 2;left 4;",
            "straight 3;right 0;", "straight 5;right 1;", "left 9;", "straight 6;right 1;"};
        for (int i = 0; i < sights.length; i++) {
            next(sights[i], slanting[i][1], slanting[i][0]);
        }
        Check.by("2: NEXT (NONE: nothing FITS)");
        next("straight 0;straight 1;", 0, NONE);
        next("right 9;", 0, NONE);
        next("right 9;", 1, 0);
    }

    private static void noFits() {
        Check.by("-2: there is none such (of either), another error, or for another what.");
        PairedViews x = Check.with(2, "straight 4;");
        for (int error : new int[] {-1, -2, 4, 5, Integer.MAX_VALUE, Integer.MIN_VALUE}) {
            for (int what : new int[] {0, 1, 2, 10}) {
                Check.due("error " + error + ", what " + what, x.fits(0, error, what), -2);
            }
        }
        for (int what = -3; what < 130; what++) {
            boolean is = what >= 0 && what < 3 || what >= 10 && what < 20;
            Check.due("what " + what, x.fits(0, 0, what) != -2, is);
        }
        for (int far : FAR) {
            Check.due("what " + far, x.fits(0, 0, far), -2);
            Check.due("sights " + far, x.fits(far, 0, 0), -2);
        }
        Check.due("sights 1", x.fits(1, 0, 0), -2);
        Check.due("sights -1", x.fits(-1, 0, 0), -2);
    }

    private static void wrong(String sights, int error, int view, int many) {
        PairedViews x = Check.with(2, sights);
        Check.due("wrong of " + sights + " by " + error, x.wrong(0, error, false), view);
        Check.due("wrong of " + sights + " by " + error + ", many", x.wrong(0, error, true), many);
    }

    private static void wrong() {
        Check.by("the VIEW without which most CELLS FIT, of several the least; how many");
        wrong("straight 4;", 0, 0, 100);
        wrong("straight 4;straight 4;", 0, 0, 10);
        wrong("straight 4;straight 4;straight 9;", 0, 2, 10);
        wrong("straight 4;straight 9;straight 4;", 0, 1, 10);
        wrong("straight 9;straight 4;straight 4;", 0, 0, 10);
        wrong("straight 0;straight 4;straight 8;", 0, 0, 0);
        wrong("straight 0;straight 4;straight 8;", 3, 0, 30);
        wrong("straight 9;straight 4;straight 0;", 3, 0, 30);
        wrong("straight 4;right 1;", 0, 1, 10);
        wrong("right 1;straight 4;", 0, 0, 10);
        wrong(Check.times(7, "straight 4;") + "left 9;", 0, 7, 10);
        Check.by("NONE: no VIEWS, another error, or there is none such.");
        wrong("", 0, NONE, NONE);
        wrong("", 3, NONE, NONE);
        for (int error : new int[] {-1, -2, 4, 5, Integer.MAX_VALUE, Integer.MIN_VALUE}) {
            wrong("straight 4;", error, NONE, NONE);
        }
        PairedViews x = Check.with(2, "straight 4;");
        for (int at : new int[] {-1, -2, 1, 2, Integer.MAX_VALUE, Integer.MIN_VALUE}) {
            Check.due("sights " + at, x.wrong(at, 0, false), NONE);
            Check.due("sights " + at + ", many", x.wrong(at, 0, true), NONE);
        }
    }

    private static void facts() {
        Check.by("of FACT k, what 0: 0 LOOKED, 1 SHIMMERS, 2 STILL, 1: the THING, 2: the COUPLE (NONE without)");
        for (int thing = 0; thing < 8; thing++) {
            PairedViews x = Check.with(3, "still " + thing + ";shimmers " + thing + ";looked 3 " + thing + ";looked 0 " + thing + ";");
            int[][] want = {{2, thing, NONE}, {1, thing, NONE}, {0, thing, 3}, {0, thing, 0}};
            for (int k = 0; k < 4; k++) {
                for (int what = 0; what < 3; what++) {
                    Check.due("fact " + k + " " + what, x.fact(0, k, what), want[k][what]);
                }
            }
        }
        for (int n = 0; n <= 16; n++) {
            PairedViews x = Check.with(3, Check.times(n, "looked 1 2;"));
            Check.due("how many", x.fact(0, NONE, 0), n);
            for (int what = 0; what < 3; what++) {
                Check.due("no FACT " + n + ", what " + what, x.fact(0, n, what), -2);
            }
        }
        Check.by("-2: there is none such (of either), or for another what.");
        PairedViews x = Check.with(3, "looked 1 2;still 3;");
        for (int what : new int[] {-1, -2, 3, 4, Integer.MAX_VALUE, Integer.MIN_VALUE}) {
            Check.due("fact 0, what " + what, x.fact(0, 0, what), -2);
            Check.due("fact 1, what " + what, x.fact(0, 1, what), -2);
            Check.due("how many, what " + what, x.fact(0, NONE, what), -2);
        }
        Check.due("how many, what 1", x.fact(0, NONE, 1), -2);
        Check.due("how many, what 2", x.fact(0, NONE, 2), -2);
        for (int far : new int[] {-2, 2, 3, Integer.MAX_VALUE, Integer.MIN_VALUE}) {
            for (int what = 0; what < 3; what++) {
                Check.due("fact " + far + ", what " + what, x.fact(0, far, what), -2);
                Check.due("quarrels " + far + ", what " + what, x.fact(far, 0, what), -2);
            }
        }
        Check.due("quarrels 1", x.fact(1, NONE, 0), -2);
        Check.due("quarrels -1", x.fact(-1, NONE, 0), -2);
    }

    private static void sets(String quarrels, int... want) {
        PairedViews x = Check.with(3, quarrels);
        Check.due("how many of " + quarrels, x.words(0, 0), want.length);
        int sure = 15;
        int fewest = 5;
        for (int k = 0; k < want.length; k++) {
            Check.due("set " + k + " of " + quarrels, x.words(0, 10 + k), want[k]);
            sure &= want[k];
            fewest = Math.min(fewest, Integer.bitCount(want[k]));
        }
        Check.due("no more sets of " + quarrels, x.words(0, 10 + want.length), -2);
        Check.due("SURE of " + quarrels, x.words(0, 1), want.length == 0 ? NONE : sure);
        Check.due("FEWEST of " + quarrels, x.words(0, 2), want.length == 0 ? NONE : fewest);
    }

    private static void setsThatFit() {
        Check.by("if each THING that SHIMMERS was LOOKED at by one of them at least, each one that is STILL by none");
        sets("", 0, 1, 2, 3, 4, 5, 6, 7, 8, 9, 10, 11, 12, 13, 14, 15);
        sets("looked 0 0;", 0, 1, 2, 3, 4, 5, 6, 7, 8, 9, 10, 11, 12, 13, 14, 15);
        sets("looked 3 0;shimmers 0;", 8, 9, 10, 11, 12, 13, 14, 15);
        sets("looked 3 0;still 0;", 0, 1, 2, 3, 4, 5, 6, 7);
        sets("looked 0 0;looked 1 0;shimmers 0;still 1;looked 2 1;looked 3 1;", 1, 2, 3);
        sets("looked 0 0;looked 1 0;still 0;shimmers 1;looked 2 1;looked 3 1;", 4, 8, 12);
        sets("looked 0 0;looked 1 0;looked 2 0;looked 3 0;shimmers 0;", 1, 2, 3, 4, 5, 6, 7, 8, 9, 10, 11, 12, 13, 14, 15);
        sets("looked 0 0;looked 1 0;looked 2 0;looked 3 0;still 0;", 0);
        // Nobody looked at it: it can't SHIMMER, and is STILL whoever had WORDS.
        sets("shimmers 0;");
        sets("shimmers 0;looked 0 1;");
        sets("still 0;looked 3 1;still 1;looked 2 1;", 0, 1, 2, 3);
        sets("looked 0 0;shimmers 0;still 0;");
        // All sixteen FACTS, the last one, too.
        sets(Check.times(15, "looked 0 0;") + "shimmers 0;", 1, 3, 5, 7, 9, 11, 13, 15);
        sets(Check.times(15, "still 0;") + "looked 0 0;", 0, 2, 4, 6, 8, 10, 12, 14);
        // When it was LOOKED at does not matter, nor how often.
        sets("shimmers 7;looked 2 7;looked 2 7;", 4, 5, 6, 7, 12, 13, 14, 15);
    }

    private static void sureAndFewest() {
        Check.by("SURE: those in all (bits); FEWEST: the least number of them");
        // 0 and 1, or 2 alone: the fewest are not in the first set by numbers.
        sets("looked 0 1;looked 2 1;shimmers 1;looked 1 2;looked 2 2;shimmers 2;still 3;looked 3 3;", 3, 4, 5, 6, 7);
        sets("looked 0 0;shimmers 0;looked 1 1;shimmers 1;looked 2 2;shimmers 2;looked 3 3;shimmers 3;", 15);
        sets("looked 1 5;shimmers 5;looked 0 6;looked 3 6;still 6;", 2, 6);
        Check.by("1: SURE (bits; NONE: nothing FITS), 2: FEWEST (NONE)");
        PairedViews x = Check.with(3, "shimmers 5;");
        Check.due("none", x.words(0, 0), 0);
        Check.due("SURE", x.words(0, 1), NONE);
        Check.due("FEWEST", x.words(0, 2), NONE);
        x = Check.with(3, "looked 0 5;still 5;");
        Check.due("nobody is SURE", x.words(0, 1), 0);
        Check.due("FEWEST none", x.words(0, 2), 0);
    }

    private static void noWords() {
        Check.by("10 + k: the k-th. -2: there is none such (of either), or for another what.");
        PairedViews x = Check.with(3, "looked 3 0;shimmers 0;");
        for (int what = -3; what < 60; what++) {
            boolean is = what >= 0 && what < 3 || what >= 10 && what < 18;
            Check.due("what " + what, x.words(0, what) != -2, is);
        }
        for (int far : FAR) {
            Check.due("what " + far, x.words(0, far), -2);
            Check.due("quarrels " + far, x.words(far, 0), -2);
        }
        Check.due("quarrels 1", x.words(1, 0), -2);
        Check.due("quarrels -1", x.words(-1, 0), -2);
    }

    private static void tell(String quarrels, int want) {
        Check.due("tell of " + quarrels, Check.with(3, quarrels).tell(0), want);
    }

    private static void tell() {
        Check.by("the THING that was LOOKED at by which, if it SHIMMERS or not, of the sets that FIT the greater number is least, of several the least");
        for (int thing = 0; thing < 8; thing++) {
            tell("looked 0 " + thing + ";", thing);
        }
        tell("looked 0 3;looked 1 2;", 2);
        // By one COUPLE eight of sixteen, by two twelve, by three fourteen, by all fifteen.
        tell("looked 0 0;looked 0 1;looked 1 1;", 0);
        tell("looked 0 0;looked 1 0;looked 0 1;", 1);
        tell("looked 0 0;looked 1 0;looked 2 0;looked 0 1;looked 1 1;looked 0 2;looked 1 2;looked 2 2;looked 3 2;", 1);
        // What is known tells nothing: 1 SHIMMERS in all sets; 2, which one of them looked at, in two of three.
        tell("looked 0 1;looked 1 1;shimmers 1;looked 0 2;still 3;looked 2 3;looked 3 3;", 2);
        tell("looked 0 1;shimmers 1;looked 0 2;looked 3 4;", 4);
        tell("looked 0 1;shimmers 1;looked 0 0;", 0);
        Check.by("NONE: none was LOOKED at, nothing FITS, or there is none such.");
        tell("", NONE);
        tell("still 0;still 1;", NONE);
        tell("shimmers 0;", NONE);
        tell("shimmers 0;looked 0 1;", NONE);
        tell("looked 0 1;shimmers 1;still 1;", NONE);
        PairedViews x = Check.with(3, "looked 0 1;");
        for (int at : new int[] {-1, -2, 1, 2, Integer.MAX_VALUE, Integer.MIN_VALUE}) {
            Check.due("quarrels " + at, x.tell(at), NONE);
        }
    }
}
