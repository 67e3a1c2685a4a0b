import java.util.ArrayList;
import java.util.List;
import java.util.Random;

/** Promises 6 to 27 on many texts by chance (the same ones each time), against the Model. */
final class ModelTest {
    private static final int NONE = PairedViews.NONE;
    private static final int ROUNDS = 400;

    private final Random chance = new Random(20261118);

    public static void main(String[] args) {
        ModelTest test = new ModelTest();
        for (int round = 0; round < ROUNDS; round++) {
            test.country(round);
            test.sights();
            test.quarrels();
        }
        Check.finish();
    }

    private int below(int n) {
        return chance.nextInt(n);
    }

    private int numberOf(int most) {
        return below(6) == 0 ? most : below(most + 1);
    }

    private String landText() {
        StringBuilder text = new StringBuilder();
        int things = numberOf(8);
        int tops = below(3) == 0 ? 100 : below(2) == 0 ? 12 : 40;
        int heavy = 1 + below(10);
        for (int t = 0; t < things; t++) {
            text.append("thing ").append(below(tops)).append(' ').append(below(heavy)).append(' ').append(below(10)).append(";");
        }
        List<Integer> order = new ArrayList<>();
        for (int t = 0; t < things; t++) {
            order.add(below(t + 1), t);
        }
        for (int t = 1; t < things; t++) {
            // Each on one that stands ahead of it in a mixed row, so that there is no ring.
            if (below(3) != 0) {
                text.append("rests ").append(order.get(t)).append(' ').append(order.get(below(t))).append(";");
            }
        }
        for (int p = numberOf(things > 1 ? 12 : 0); p > 0; p--) {
            int from = below(things);
            text.append("path ").append(from).append(' ').append((from + 1 + below(things - 1)) % things).append(";");
        }
        return text.toString();
    }

    private String eyesText() {
        StringBuilder text = new StringBuilder();
        int lefts = numberOf(4);
        int rights = numberOf(4);
        for (int l = 0; l < lefts; l++) {
            text.append("left ").append(1 + below(9)).append(";");
        }
        for (int r = 0; r < rights; r++) {
            text.append("right ").append(1 + below(9)).append(";");
        }
        int couples = below(1 + Math.min(lefts, rights));
        int turn = rights > 0 ? below(rights) : 0;
        for (int c = 0; c < couples; c++) {
            text.append("couple ").append(lefts - 1 - c).append(' ').append((c + turn) % rights).append(";");
        }
        if (below(2) == 0) {
            text.append("hand ").append(below(10)).append(";");
        }
        int much = 1 + below(10);
        for (int n = lefts * rights > 0 ? below(12) : 0; n > 0; n--) {
            text.append("likes ").append(below(lefts)).append(' ').append(below(rights)).append(' ').append(below(much)).append(";");
            text.append("liked ").append(below(rights)).append(' ').append(below(lefts)).append(' ').append(below(much)).append(";");
        }
        return text.toString();
    }

    private String yearText(Model.Land land) {
        StringBuilder text = new StringBuilder();
        int things = Math.max(1, land.things.size());
        int couples = Math.max(1, land.couples.size());
        Model.World world = new Model.World(land);
        for (int n = numberOf(40); n > 0; n--) {
            String deed = deedText(couples, things);
            // Most DEEDS should be such as can be, or years would be short.
            if (world.act(deed.split(" ")) || below(30) == 0) {
                text.append(deed).append(";");
            }
        }
        return text.toString();
    }

    private String deedText(int couples, int things) {
        int die = below(10);
        if (die < 4) {
            return "look " + below(couples) + " " + below(things);
        }
        if (die < 6) {
            return (die == 4 ? "words " : "peace ") + below(couples);
        }
        return die == 6 ? "mirror " + below(things) : "hour";
    }

    private void country(int round) {
        String text = below(2) == 0 ? landText() + eyesText() : eyesText() + landText();
        if (text.length() > 600) {
            return;
        }
        Model.Land land = new Model.Land(text);
        PairedViews x = Check.with(0, text);
        years(x, land, text);
        hours(x, land, text);
        eyes(x, land, text);
        if (land.couples.size() < 4 || round % 8 == 0) {
            watch(x, land, text);
        }
    }

    private void years(PairedViews x, Model.Land land, String text) {
        String year = yearText(land);
        if (year.length() > 600) {
            return;
        }
        List<String[]> deeds = Model.deeds(year);
        Check.due("text " + year, Check.tell(x, 1, NONE, year), 0);
        String both = " of " + text + " and " + year;
        int till = Model.till(land, deeds);
        Check.due("deeds" + both, x.deed(0, NONE, 0), deeds.size());
        Check.due("till" + both, x.till(0, 0), till);
        for (int what = -1; what < 5; what++) {
            Check.due("after " + what + both, x.after(0, 0, what), Model.after(land, deeds, what));
        }
        for (int i = 0; i < 25; i++) {
            int n = i < 5 ? till + 1 - i : below(till + 2);
            int what = i % 2 == 0 ? below(5) : below(45);
            Check.due("state " + n + " " + what + both, x.state(0, 0, n, what), Model.state(land, deeds, n, what));
            int seed = chance.nextInt();
            int times = numberOf(60);
            Check.due("drawn " + seed + " " + times + " " + what + both, x.drawn(0, seed, times, what),
                Model.drawn(land, seed, times, what));
        }
    }

    private void hours(PairedViews x, Model.Land land, String text) {
        int things = land.things.size();
        int[] stone = Model.keystone(land);
        int[] parts = Model.parts(land);
        Check.due("keystone of " + text, x.keystone(0, false), stone[0]);
        Check.due("keystone many of " + text, x.keystone(0, true), stone[1]);
        Check.due("height 0 of " + text, x.height(0, 0), Model.height(land));
        Check.due("height 2 of " + text, x.height(0, 2), parts[0]);
        Check.due("height 3 of " + text, x.height(0, 3), parts[1]);
        for (int t = 0; t < things; t++) {
            int n = numberOf(below(3) == 0 ? 99 : 12);
            int to = below(things);
            Check.due("lasts " + t + " of " + text, x.lasts(0, t), Model.lasts(land, t));
            Check.due("need " + t + " " + n + " of " + text, x.need(0, t, n), Model.need(land, t, n));
            Check.due("way " + t + " " + to + " of " + text, x.way(0, t, to, false), Model.way(land, t, to));
            Check.due("surest " + t + " " + to + " of " + text, x.way(0, t, to, true), Model.surest(land, t, to));
            Check.due("meet " + t + " " + to + " of " + text, x.meet(0, t, to), Model.meet(land, t, to));
        }
    }

    private void eyes(PairedViews x, Model.Land land, String text) {
        int[] has = Model.married(land);
        for (int l = 0; l < 5; l++) {
            Check.due("married " + l + " of " + text, x.married(0, l, false), l < has.length ? has[l] : -2);
        }
        for (int r = 0; r < 5; r++) {
            int want = r < land.rights.size() ? Model.marriedRight(land, r) : -2;
            Check.due("married right " + r + " of " + text, x.married(0, r, true), want);
        }
        Check.due("unhappy of " + text, x.unhappy(0), Model.unhappy(land));
        Check.due("height 4 of " + text, x.height(0, 4), Model.paired(land));
    }

    private void watch(PairedViews x, Model.Land land, String text) {
        int[] want = Model.watch(land);
        int couples = land.couples.size();
        Check.due("watch of " + text, x.watch(0, NONE), want[0]);
        Check.due("watch solid of " + text, x.watch(0, -2), want[1]);
        for (int c = 0; c < couples; c++) {
            Check.due("watch " + c + " of " + text, x.watch(0, c), want[2 + c]);
        }
        Check.due("served of " + text, x.height(0, 1), want[2 + couples]);
    }

    private void sights() {
        StringBuilder text = new StringBuilder();
        String[] ways = {"straight ", "right ", "left "};
        int row = below(10);
        int column = below(10);
        for (int n = numberOf(8); n > 0; n--) {
            // Most VIEWS are of one CELL, seen with a small error.
            int way = below(3);
            int from = column - (way == 1 ? row + 1 : way == 2 ? -row - 1 : 0) + below(3) - 1;
            text.append(ways[way]).append(from < 0 || from > 9 || below(12) == 0 ? below(10) : from).append(";");
        }
        PairedViews x = Check.with(2, text.toString());
        List<String[]> views = Model.deeds(text.toString());
        for (int error = 0; error < 4; error++) {
            String call = " of " + text + " by " + error;
            List<Integer> cells = Model.fits(views, error, -1);
            int[] wrong = Model.wrong(views, error);
            Check.due("fits" + call, x.fits(0, error, 0), cells.size());
            Check.due("sure" + call, x.fits(0, error, 1), cells.size() == 1 ? cells.get(0) : NONE);
            Check.due("next" + call, x.fits(0, error, 2), Model.next(views, error));
            for (int k = 0; k < 101; k += 1 + below(7)) {
                Check.due("fits " + k + call, x.fits(0, error, 10 + k), k < cells.size() ? cells.get(k) : -2);
            }
            Check.due("wrong" + call, x.wrong(0, error, false), wrong[0]);
            Check.due("wrong many" + call, x.wrong(0, error, true), wrong[1]);
        }
    }

    private void quarrels() {
        StringBuilder text = new StringBuilder();
        int looks = 1 + below(14);
        for (int n = numberOf(16); n > 0; n--) {
            if (below(16) < looks) {
                text.append("looked ").append(below(4)).append(' ').append(below(8)).append(";");
            } else {
                text.append(below(2) == 0 ? "shimmers " : "still ").append(below(8)).append(";");
            }
        }
        PairedViews x = Check.with(3, text.toString());
        List<String[]> facts = Model.deeds(text.toString());
        List<Integer> sets = Model.words(facts);
        int sure = sets.isEmpty() ? NONE : 15;
        int fewest = sets.isEmpty() ? NONE : 4;
        for (int set : sets) {
            sure &= set;
            fewest = Math.min(fewest, Integer.bitCount(set));
        }
        Check.due("words 0 of " + text, x.words(0, 0), sets.size());
        Check.due("words 1 of " + text, x.words(0, 1), sure);
        Check.due("words 2 of " + text, x.words(0, 2), fewest);
        for (int k = 0; k < 17; k++) {
            Check.due("words " + k + " of " + text, x.words(0, 10 + k), k < sets.size() ? sets.get(k) : -2);
        }
        Check.due("tell of " + text, x.tell(0), Model.tell(facts));
    }
}
