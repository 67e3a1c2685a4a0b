import java.util.ArrayList;
import java.util.Arrays;
import java.util.List;
import java.util.TreeSet;

/**
 * The document once more, by other means than the class: lists, sets and trying out all there is, without a thought
 * for speed. ModelTest asks both the same.
 */
final class Model {
    private Model() {
    }

    static final class Thing {
        int solid;
        int weight;
        int thins;
        Thing below;
        boolean gone;
        boolean seen;
    }

    /** A COUNTRY as lines of words and numbers. */
    static final class Land {
        final List<int[]> things = new ArrayList<>();
        final List<int[]> paths = new ArrayList<>();
        final List<Integer> lefts = new ArrayList<>();
        final List<Integer> rights = new ArrayList<>();
        final List<int[]> couples = new ArrayList<>();
        final int[] rests = new int[8];
        final int[][] likes = new int[4][4];
        final int[][] liked = new int[4][4];
        int hand = 3;

        Land(String text) {
            Arrays.fill(rests, -1);
            for (String line : text.split(";")) {
                if (!line.trim().isEmpty()) {
                    hear(line.trim().split("\\s+"));
                }
            }
        }

        private void hear(String[] words) {
            int[] n = new int[3];
            for (int i = 1; i < words.length; i++) {
                n[i - 1] = Integer.parseInt(words[i]);
            }
            switch (words[0]) {
                case "thing" -> things.add(n);
                case "rests" -> rests[n[0]] = n[1];
                case "path" -> paths.add(n);
                case "left" -> lefts.add(n[0]);
                case "right" -> rights.add(n[0]);
                case "couple" -> couples.add(n);
                case "hand" -> hand = n[0];
                case "likes" -> likes[n[0]][n[1]] = n[2];
                case "liked" -> liked[n[0]][n[1]] = n[2];
                default -> throw new IllegalArgumentException(words[0]);
            }
        }
    }

    /** A COUNTRY while time goes by. */
    static final class World {
        final Land land;
        final List<Thing> things = new ArrayList<>();
        final TreeSet<Integer> quarrels = new TreeSet<>();
        final TreeSet<Integer> lookers = new TreeSet<>();
        final TreeSet<Integer> forged = new TreeSet<>();
        final TreeSet<Integer> giants = new TreeSet<>();
        final int[] looks = new int[4];
        int hour = 0;

        World(Land land) {
            this(land, -1, 0);
        }

        World(Land land, int other, int solid) {
            this.land = land;
            for (int[] told : land.things) {
                Thing thing = new Thing();
                thing.solid = told[0];
                thing.weight = told[1];
                thing.thins = told[2];
                things.add(thing);
            }
            for (int t = 0; t < things.size(); t++) {
                things.get(t).below = land.rests[t] < 0 ? null : things.get(land.rests[t]);
            }
            if (other >= 0) {
                things.get(other).solid = solid;
            }
            fall();
        }

        boolean there(int t) {
            return t < things.size() && !things.get(t).gone;
        }

        private boolean restsOn(Thing upper, Thing lower) {
            for (Thing down = upper.below; down != null; down = down.below) {
                if (down == lower) {
                    return true;
                }
            }
            return false;
        }

        int bears(Thing lower) {
            int sum = 0;
            for (Thing upper : things) {
                sum += !upper.gone && restsOn(upper, lower) ? upper.weight : 0;
            }
            return sum;
        }

        final void fall() {
            boolean fallen = true;
            while (fallen) {
                fallen = false;
                for (Thing thing : things) {
                    if (!thing.gone && (thing.solid == 0 || thing.solid < bears(thing))) {
                        drop(thing);
                        fallen = true;
                        break;
                    }
                }
            }
        }

        /** How many others fall with it. */
        int drop(Thing lower) {
            int others = 0;
            lower.gone = true;
            for (Thing upper : things) {
                if (!upper.gone && restsOn(upper, lower)) {
                    upper.gone = true;
                    others++;
                }
            }
            return others;
        }

        void hour() {
            for (Thing thing : things) {
                if (!thing.gone && !thing.seen) {
                    thing.solid -= Math.min(thing.thins, thing.solid);
                }
                thing.seen = false;
            }
            fall();
            lookers.clear();
            hour++;
        }

        boolean act(String[] deed) {
            int a = deed.length > 1 ? Integer.parseInt(deed[1]) : -1;
            int b = deed.length > 2 ? Integer.parseInt(deed[2]) : -1;
            switch (deed[0]) {
                case "hour":
                    hour();
                    return true;
                case "mirror":
                    if (!there(a)) {
                        return false;
                    }
                    things.get(a).solid = Math.min(99, things.get(a).solid * 2);
                    forged.add(a);
                    return true;
                case "words":
                    return a < land.couples.size() && quarrels.add(a);
                case "peace":
                    return a < land.couples.size() && quarrels.remove(a);
                default:
                    return look(a, b);
            }
        }

        boolean look(int couple, int t) {
            if (couple >= land.couples.size() || quarrels.contains(couple) || lookers.contains(couple) || !there(t)) {
                return false;
            }
            int left = land.lefts.get(land.couples.get(couple)[0]);
            int right = land.rights.get(land.couples.get(couple)[1]);
            Thing thing = things.get(t);
            thing.solid = Math.min(99, thing.solid + left + right);
            thing.seen = true;
            if (left - right > land.hand || right - left > land.hand) {
                thing.weight = Math.min(9, thing.weight + 1);
                giants.add(t);
            }
            lookers.add(couple);
            looks[couple]++;
            return true;
        }

        int goneBits() {
            int bits = 0;
            for (int t = 0; t < things.size(); t++) {
                bits += things.get(t).gone ? 1 << t : 0;
            }
            return bits;
        }

        int howManyThere() {
            return things.size() - Integer.bitCount(goneBits());
        }

        int state(int what) {
            switch (what) {
                case 0:
                    return hour;
                case 1:
                    return goneBits();
                case 2:
                    return bits(quarrels);
                case 3:
                    return bits(forged);
                case 4:
                    return bits(lookers);
                default:
                    break;
            }
            for (int t = 0; t < things.size(); t++) {
                Thing thing = things.get(t);
                if (what == 10 + t) {
                    return thing.gone ? 0 : thing.solid;
                }
                if (what == 20 + t) {
                    return thing.gone ? 0 : thing.weight;
                }
                if (what == 30 + t) {
                    return thing.gone ? 0 : bears(thing);
                }
            }
            return -2;
        }
    }

    static int bits(TreeSet<Integer> set) {
        int bits = 0;
        for (int i : set) {
            bits += 1 << i;
        }
        return bits;
    }

    static List<String[]> deeds(String year) {
        List<String[]> deeds = new ArrayList<>();
        for (String line : year.split(";")) {
            if (!line.trim().isEmpty()) {
                deeds.add(line.trim().split("\\s+"));
            }
        }
        return deeds;
    }

    static int till(Land land, List<String[]> year) {
        World world = new World(land);
        int n = 0;
        while (n < year.size() && world.act(year.get(n))) {
            n++;
        }
        return n;
    }

    static int state(Land land, List<String[]> year, int n, int what) {
        if (n < 0 || n > till(land, year)) {
            return -2;
        }
        World world = new World(land);
        for (int k = 0; k < n; k++) {
            world.act(year.get(k));
        }
        return world.state(what);
    }

    static int after(Land land, List<String[]> year, int what) {
        World world = new World(land);
        int atFirst = world.howManyThere();
        int first = -1;
        for (int k = 0; k < till(land, year); k++) {
            world.act(year.get(k));
            if (first < 0 && world.howManyThere() < atFirst) {
                first = k;
            }
        }
        int busiest = -1;
        for (int c = 3; c >= 0; c--) {
            if (world.looks[c] > 0 && (busiest < 0 || world.looks[c] >= world.looks[busiest])) {
                busiest = c;
            }
        }
        int[] answers = {atFirst - world.howManyThere(), first, busiest, bits(world.giants)};
        return what >= 0 && what < 4 ? answers[what] : -2;
    }

    static int drawn(Land land, int seed, int n, int what) {
        World world = new World(land);
        long[] x = {seed & 0xffffffffL};
        for (int i = 0; i < n; i++) {
            int die = draw(x, 8);
            int couples = land.couples.size();
            int things = land.things.size();
            if (die < 3 && couples > 0 && things > 0) {
                int couple = draw(x, couples);
                world.look(couple, draw(x, things));
            } else if ((die == 3 || die == 4) && couples > 0) {
                world.act(new String[] {die == 3 ? "words" : "peace", String.valueOf(draw(x, couples))});
            } else if (die == 5 && things > 0) {
                world.act(new String[] {"mirror", String.valueOf(draw(x, things))});
            } else if (die > 5) {
                world.hour();
            }
        }
        return world.state(what);
    }

    private static int draw(long[] x, int n) {
        x[0] = (x[0] * 1103515245L + 12345L) % (1L << 32);
        return (int) (x[0] / 65536 % n);
    }

    static int lasts(Land land, int thing) {
        World world = new World(land);
        while (world.hour < 100) {
            if (!world.there(thing)) {
                return world.hour;
            }
            world.hour();
        }
        return -1;
    }

    static int need(Land land, int thing, int n) {
        for (int solid = 0; solid < 100; solid++) {
            World world = new World(land, thing, solid);
            for (int i = 0; i < n; i++) {
                world.hour();
            }
            if (world.there(thing)) {
                return solid;
            }
        }
        return -1;
    }

    /** How many, how much, the row of WATCH, then SERVED. */
    static int[] watch(Land land) {
        int couples = land.couples.size();
        int all = (int) Math.pow(9, couples);
        int[] best = new int[3 + couples];
        best[0] = -1;
        int served = -1;
        for (int code = 0; code < all; code++) {
            World world = new World(land);
            int before = world.howManyThere();
            int[] row = new int[couples];
            int rest = code;
            boolean fine = true;
            TreeSet<Integer> seen = new TreeSet<>();
            for (int c = couples - 1; c >= 0; c--) {
                row[c] = rest % 9;
                rest /= 9;
                fine &= row[c] == 8 || seen.add(row[c]) && world.look(c, row[c]);
            }
            if (!fine) {
                continue;
            }
            world.hour();
            int solid = 0;
            for (Thing thing : world.things) {
                solid += thing.gone ? 0 : thing.solid;
            }
            int many = world.howManyThere();
            if (1000 * many + solid > 1000 * best[0] + best[1]) {
                best[0] = many;
                best[1] = solid;
                System.arraycopy(row, 0, best, 2, couples);
            }
            if (many == before && (served < 0 || seen.size() < served)) {
                served = seen.size();
            }
        }
        best[2 + couples] = served;
        return best;
    }

    private static boolean joined(Land land, int a, int b) {
        for (int[] path : land.paths) {
            if (path[0] == a && path[1] == b || path[0] == b && path[1] == a) {
                return true;
            }
        }
        return false;
    }

    /** All THINGS one can be on behind so many hours. */
    private static TreeSet<Integer> reach(Land land, int from, int hours) {
        World world = new World(land);
        TreeSet<Integer> on = new TreeSet<>();
        if (world.there(from)) {
            on.add(from);
        }
        for (int h = 0; h < hours; h++) {
            TreeSet<Integer> next = new TreeSet<>();
            world.hour();
            for (int t = 0; t < land.things.size(); t++) {
                for (int was : on) {
                    if (world.there(t) && (was == t || joined(land, was, t))) {
                        next.add(t);
                    }
                }
            }
            on = next;
        }
        return on;
    }

    static int way(Land land, int from, int to) {
        for (int hours = 0; hours < 100; hours++) {
            if (reach(land, from, hours).contains(to)) {
                return hours;
            }
        }
        return -1;
    }

    static int meet(Land land, int a, int b) {
        for (int hours = 0; hours < 100; hours++) {
            TreeSet<Integer> both = reach(land, a, hours);
            both.retainAll(reach(land, b, hours));
            if (!both.isEmpty()) {
                return hours;
            }
        }
        return -1;
    }

    /** By all ways that come to no THING twice. */
    static int surest(Land land, int from, int to) {
        World world = new World(land);
        return world.there(from) ? surest(world, from, to, new TreeSet<>(), 100) : -1;
    }

    private static int surest(World world, int at, int to, TreeSet<Integer> been, int least) {
        int solid = Math.min(least, world.things.get(at).solid);
        if (at == to) {
            return solid;
        }
        been.add(at);
        int best = -1;
        for (int t = 0; t < world.things.size(); t++) {
            if (world.there(t) && !been.contains(t) && joined(world.land, at, t)) {
                best = Math.max(best, surest(world, t, to, been, solid));
            }
        }
        been.remove(at);
        return best;
    }

    static int[] keystone(Land land) {
        int[] best = {-1, -1};
        for (int t = land.things.size() - 1; t >= 0; t--) {
            World world = new World(land);
            if (world.there(t)) {
                int before = world.howManyThere();
                world.drop(world.things.get(t));
                world.fall();
                int others = before - world.howManyThere() - 1;
                if (others >= best[1]) {
                    best = new int[] {t, others};
                }
            }
        }
        return best;
    }

    static int height(Land land) {
        World world = new World(land);
        int most = 0;
        for (Thing thing : world.things) {
            int row = 0;
            for (Thing down = thing; down != null && !down.gone; down = down.below) {
                row++;
            }
            most = Math.max(most, row);
        }
        return most;
    }

    /** How many PARTS, and how many THINGS the largest has. */
    static int[] parts(Land land) {
        World world = new World(land);
        int n = land.things.size();
        int[] mark = new int[n];
        for (int t = 0; t < n; t++) {
            mark[t] = world.there(t) ? t : -1;
        }
        for (int round = 0; round < n; round++) {
            for (int a = 0; a < n; a++) {
                for (int b = 0; b < n; b++) {
                    if (mark[a] >= 0 && mark[b] >= 0 && joined(land, a, b)) {
                        mark[a] = Math.min(mark[a], mark[b]);
                    }
                }
            }
        }
        int[] size = new int[n + 1];
        int[] answer = {0, 0};
        for (int t = 0; t < n; t++) {
            if (mark[t] >= 0) {
                size[mark[t]]++;
                answer[0] += size[mark[t]] == 1 ? 1 : 0;
                answer[1] = Math.max(answer[1], size[mark[t]]);
            }
        }
        return answer;
    }

    /** All ways in which LEFT ones may have RIGHT ones: whom each LEFT one has, -1 for none. */
    private static List<int[]> matchings(int lefts, int rights) {
        List<int[]> all = new ArrayList<>();
        int ways = (int) Math.pow(rights + 1, lefts);
        for (int code = 0; code < ways; code++) {
            int[] has = new int[lefts];
            int rest = code;
            boolean fine = true;
            TreeSet<Integer> used = new TreeSet<>();
            for (int l = 0; l < lefts; l++) {
                has[l] = rest % (rights + 1) - 1;
                rest /= rights + 1;
                fine &= has[l] < 0 || used.add(has[l]);
            }
            if (fine) {
                all.add(has);
            }
        }
        return all;
    }

    /** Whether one would rather have x than y, of two liked alike the least; anybody rather than nobody. */
    private static boolean rather(int[] likes, int x, int y) {
        return y < 0 || likes[x] > likes[y] || likes[x] == likes[y] && x < y;
    }

    private static int whoHas(int[] has, int right) {
        for (int l = 0; l < has.length; l++) {
            if (has[l] == right) {
                return l;
            }
        }
        return -1;
    }

    private static boolean stable(Land land, int[] has) {
        for (int l = 0; l < has.length; l++) {
            for (int r = 0; r < land.rights.size(); r++) {
                if (has[l] != r && rather(land.likes[l], r, has[l]) && rather(land.liked[r], l, whoHas(has, r))) {
                    return false;
                }
            }
        }
        return true;
    }

    /** Of all marriages that nobody would leave, the one in which each LEFT one has whom it would have most. */
    static int[] married(Land land) {
        int[] best = null;
        for (int[] has : matchings(land.lefts.size(), land.rights.size())) {
            if (stable(land, has)) {
                boolean better = true;
                for (int l = 0; l < has.length && best != null; l++) {
                    better &= has[l] == best[l] || has[l] >= 0 && rather(land.likes[l], has[l], best[l]);
                }
                best = better ? has : best;
            }
        }
        return best;
    }

    static int marriedRight(Land land, int right) {
        return whoHas(married(land), right);
    }

    static int unhappy(Land land) {
        int pairs = 0;
        for (int l = 0; l < land.lefts.size(); l++) {
            for (int r = 0; r < land.rights.size(); r++) {
                boolean left = true;
                boolean right = true;
                for (int[] couple : land.couples) {
                    left &= couple[0] != l || land.likes[l][r] > land.likes[l][couple[1]];
                    right &= couple[1] != r || land.liked[r][l] > land.liked[r][couple[0]];
                }
                pairs += left && right ? 1 : 0;
            }
        }
        return pairs;
    }

    static int paired(Land land) {
        int most = 0;
        for (int[] has : matchings(land.lefts.size(), land.rights.size())) {
            int pairs = 0;
            for (int l = 0; l < has.length; l++) {
                if (has[l] >= 0) {
                    boolean fine = Math.abs(land.lefts.get(l) - land.rights.get(has[l])) <= land.hand;
                    pairs += fine ? 1 : -100;
                }
            }
            most = Math.max(most, pairs);
        }
        return most;
    }

    /** A field drawn by a VIEW: which CELLS it crosses with an error. */
    private static boolean[][] crossed(String way, int column, int error) {
        boolean[][] field = new boolean[10][10];
        int at = column;
        for (int row = 0; row < 10; row++) {
            at += way.equals("right") ? 1 : way.equals("left") ? -1 : 0;
            for (int c = at - error; c <= at + error; c++) {
                if (c >= 0 && c < 10) {
                    field[row][c] = true;
                }
            }
        }
        return field;
    }

    static List<Integer> fits(List<String[]> views, int error, int without) {
        List<Integer> cells = new ArrayList<>();
        for (int cell = 0; cell < 100; cell++) {
            boolean fine = true;
            for (int k = 0; k < views.size(); k++) {
                String[] view = views.get(k);
                fine &= k == without || crossed(view[0], Integer.parseInt(view[1]), error)[cell / 10][cell % 10];
            }
            if (fine) {
                cells.add(cell);
            }
        }
        return cells;
    }

    static int next(List<String[]> views, int error) {
        List<Integer> cells = fits(views, error, -1);
        String[] ways = {"straight", "right", "left"};
        int best = -1;
        int least = Integer.MAX_VALUE;
        for (int way = 0; way < 3 && !cells.isEmpty(); way++) {
            for (int column = 0; column < 10; column++) {
                boolean[][] field = crossed(ways[way], column, error);
                int yes = 0;
                for (int cell : cells) {
                    yes += field[cell / 10][cell % 10] ? 1 : 0;
                }
                int greater = Math.max(yes, cells.size() - yes);
                if (greater < least) {
                    least = greater;
                    best = 10 * way + column;
                }
            }
        }
        return best;
    }

    /** The VIEW, and how many FIT without it. */
    static int[] wrong(List<String[]> views, int error) {
        int[] best = {-1, -1};
        for (int k = views.size() - 1; k >= 0; k--) {
            int many = fits(views, error, k).size();
            if (many >= best[1]) {
                best = new int[] {k, many};
            }
        }
        return best;
    }

    private static boolean lookedAt(List<String[]> facts, int set, String thing) {
        for (String[] fact : facts) {
            if (fact[0].equals("looked") && fact[2].equals(thing) && (set >> Integer.parseInt(fact[1])) % 2 == 1) {
                return true;
            }
        }
        return false;
    }

    static List<Integer> words(List<String[]> facts) {
        List<Integer> sets = new ArrayList<>();
        for (int set = 0; set < 16; set++) {
            boolean fine = true;
            for (String[] fact : facts) {
                if (!fact[0].equals("looked")) {
                    fine &= lookedAt(facts, set, fact[1]) == fact[0].equals("shimmers");
                }
            }
            if (fine) {
                sets.add(set);
            }
        }
        return sets;
    }

    static int tell(List<String[]> facts) {
        List<Integer> sets = words(facts);
        int best = -1;
        int least = Integer.MAX_VALUE;
        for (int thing = 0; thing < 8 && !sets.isEmpty(); thing++) {
            int yes = 0;
            for (int set : sets) {
                yes += lookedAt(facts, set, String.valueOf(thing)) ? 1 : 0;
            }
            int greater = Math.max(yes, sets.size() - yes);
            if (lookedAt(facts, 15, String.valueOf(thing)) && greater < least) {
                least = greater;
                best = thing;
            }
        }
        return best;
    }
}
