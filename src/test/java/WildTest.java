import java.util.Random;

/**
 * Calls by chance with any arguments, on texts that are half noise: none throws, the same calls give the same answers,
 * each FAULT is as an other reading of the text has it, and 512 calls need little room.
 */
final class WildTest {
    private static final int CALLS = 512;
    private static final int ROUNDS = 300;
    private static final String[][] WORDS = {
        {"thing", "rests", "path", "couple", "left", "right", "hand", "likes", "liked"},
        {"look", "words", "peace", "mirror", "hour"},
        {"straight", "right", "left"},
        {"looked", "shimmers", "still"}};
    private static final String[][] TOPS = {
        {"99 9 9", "7 7", "7 7", "3 3", "9", "9", "9", "3 3 9", "3 3 9"},
        {"3 7", "3", "3", "7", ""},
        {"9", "9", "9"},
        {"3 7", "7", "7"}};
    private static final int[] EDGES = {Integer.MIN_VALUE, Integer.MAX_VALUE, -3, -2, -1, 0, 1, 2, 3, 4, 7, 8, 9, 10, 17, 40, 60, 61, 99, 100};

    public static void main(String[] args) {
        long sum = 0;
        for (int seed = 0; seed < ROUNDS; seed++) {
            long first = run(new Random(seed));
            sum += first;
            Check.due("same calls, same answers", run(new Random(seed)), first);
        }
        Check.due("some answers", sum != 0, true);
        for (int seed = 0; seed < ROUNDS; seed++) {
            questionsChangeNothing(new Random(seed));
        }
        room();
        Check.finish();
    }

    private static long run(Random chance) {
        PairedViews x = new PairedViews();
        long sum = 0;
        int calls = 0;
        while (calls < CALLS) {
            if (chance.nextInt(6) == 0) {
                calls += 5 + tellSomething(x, chance);
            } else {
                sum = 31 * sum + ask(x, chance);
                calls++;
            }
        }
        return sum;
    }

    private static int tellSomething(PairedViews x, Random chance) {
        int sort = chance.nextInt(4);
        String text = textOf(sort, chance);
        x.end(0);
        Check.tape(x, text);
        int at = chance.nextInt(3) - 1;
        int size = x.count(sort);
        int got = x.text(sort, at);
        boolean may = at < 0 ? size < 2 : at < size;
        int[] want = may ? Faults.of(sort, text) : new int[] {0, -1};
        Check.due("fault of " + text, x.fault(0), want[0]);
        Check.due("place of " + text, x.fault(1), want[1]);
        Check.due("text " + text, got, !may ? -2 : want[0] != 0 ? -1 : at < 0 ? size : at);
        Check.due("tape behind " + text, x.end(1), -1);
        return text.length() / 20;
    }

    private static String textOf(int sort, Random chance) {
        StringBuilder text = new StringBuilder();
        if (sort == 0 && chance.nextInt(3) > 0) {
            text.append(Check.times(chance.nextInt(8), "thing 30 1 1;")).append(Check.times(chance.nextInt(4), "left 2;right 9;"));
        }
        boolean wild = chance.nextInt(3) == 0;
        for (int n = chance.nextInt(sort == 1 ? 45 : 12); n > 0; n--) {
            int kind = chance.nextInt(WORDS[sort].length);
            text.append(WORDS[sort][kind]);
            for (String top : TOPS[sort][kind].split(" ")) {
                if (!top.isEmpty()) {
                    int most = Integer.parseInt(top) + (chance.nextInt(wild ? 6 : 60) == 0 ? 2 : 0);
                    text.append(chance.nextInt(40) == 0 ? "\n " : " ").append(chance.nextInt(most + 1));
                }
            }
            text.append(chance.nextInt(20) == 0 ? " ; " : ";");
        }
        for (int n = wild ? chance.nextInt(3) : 0; n > 0 && text.length() > 0; n--) {
            int at = chance.nextInt(text.length());
            String noise = "; 07a!\n;" + (char) chance.nextInt(256);
            text.setCharAt(at, noise.charAt(chance.nextInt(noise.length())));
        }
        return text.length() > 600 ? text.substring(0, 600) : text.toString();
    }

    private static int any(Random chance) {
        return chance.nextInt(3) > 0 ? chance.nextInt(3) - chance.nextInt(2) : EDGES[chance.nextInt(EDGES.length)];
    }

    private static int what(Random chance) {
        return chance.nextInt(3) > 0 ? chance.nextInt(180) : any(chance);
    }

    private static long ask(PairedViews x, Random chance) {
        int a = any(chance);
        int b = any(chance);
        int c = any(chance);
        boolean flag = chance.nextBoolean();
        switch (chance.nextInt(29)) {
            case 0: return x.feed(a, b, c, chance.nextInt(), chance.nextInt());
            case 1: return x.end(a);
            case 2: return x.text(a, b);
            case 3: return x.fault(a);
            case 4: return x.country(a, what(chance));
            case 5: return x.deed(a, b, c);
            case 6: return x.till(a, b);
            case 7: return x.state(a, b, c, what(chance));
            case 8: return x.lasts(a, b);
            case 9: return x.watch(a, b);
            case 10: return x.way(a, b, c, flag);
            case 11: return x.married(a, b, flag);
            case 12: return x.unhappy(a);
            case 13: return x.agree(a, b, c, any(chance), flag);
            case 14: return x.view(a, b, c);
            case 15: return x.fits(a, b, what(chance));
            case 16: return x.fact(a, b, c);
            case 17: return x.words(a, what(chance));
            case 18: return x.drawn(a, b, c, what(chance));
            case 19: return x.need(a, b, c);
            case 20: return x.keystone(a, flag);
            case 21: return x.height(a, b);
            case 22: return x.meet(a, b, c);
            case 23: return x.after(a, b, c);
            case 24: return x.wrong(a, b, flag);
            case 25: return x.tell(a);
            case 26: return x.count(a);
            case 27: return x.image(a) ? 1 : 0;
            default: return x.again(a) ? 1 : 0;
        }
    }

    /** Questions, and calls that are refused, leave all that is told, the tape, the FAULT and the images as they were. */
    private static void questionsChangeNothing(Random chance) {
        PairedViews x = new PairedViews();
        for (int sort = 0; sort < 4; sort++) {
            Check.tell(x, sort, PairedViews.NONE, textOf(sort, chance));
            Check.tell(x, sort, PairedViews.NONE, sort == 0 ? Check.LAND : textOf(sort, chance));
        }
        x.image(1);
        Check.tell(x, 1, PairedViews.NONE, "hours;");
        Check.tape(x, Check.times(590, " "));
        long before = all(x);
        for (int i = 0; i < 200; i++) {
            question(x, chance);
        }
        Check.due("questions change nothing", all(x), before);
    }

    private static void question(PairedViews x, Random chance) {
        int a = any(chance);
        switch (chance.nextInt(9)) {
            case 0: Check.due("feed to 610", x.feed(a, a, a, a, a), -1); break;
            case 1: Check.due("end of more", x.end(591 + chance.nextInt(99)), -1); break;
            case 2: Check.due("end below 0", x.end(-1 - chance.nextInt(99)), -1); break;
            case 3: Check.due("image of no such", x.image(3 + chance.nextInt(99)), false); break;
            case 4: Check.due("again of no such", x.again(2 * chance.nextInt(2)), false); break;
            default: askOnly(x, chance);
        }
    }

    /** Every call that tells nothing. */
    private static void askOnly(PairedViews x, Random chance) {
        int a = any(chance);
        int b = any(chance);
        int c = any(chance);
        boolean flag = chance.nextBoolean();
        x.fault(a);
        x.country(a, what(chance));
        x.deed(a, b, c);
        x.till(a, b);
        x.state(a, b, c, what(chance));
        x.lasts(a, b);
        x.watch(a, b);
        x.way(a, b, c, flag);
        x.married(a, b, flag);
        x.unhappy(a);
        x.agree(a, b, c, 3, flag);
        x.view(a, b, c);
        x.fits(a, b, what(chance));
        x.fact(a, b, c);
        x.words(a, what(chance));
        x.drawn(a, b, c, what(chance));
        x.need(a, b, c);
        x.keystone(a, flag);
        x.height(a, b);
        x.meet(a, b, c);
        x.after(a, b, c);
        x.wrong(a, b, flag);
        x.tell(a);
        x.count(a);
    }

    /** Answers that show all that is told, as one number. */
    private static long all(PairedViews x) {
        long sum = 31 * x.end(590) + x.end(591);
        sum = 31 * sum + 7 * x.fault(0) + x.fault(1);
        for (int at = 0; at < 2; at++) {
            for (int what = 0; what < 180; what++) {
                sum = 31 * sum + x.country(at, what);
            }
            for (int k = -1; k < 40; k++) {
                for (int what = 0; what < 3; what++) {
                    sum = 31 * sum + 7 * x.deed(at, k, what) + 5 * x.view(at, k, what) + x.fact(at, k, what);
                }
            }
            sum = 31 * sum + 7 * x.till(at, at) + 5 * x.watch(at, -2) + x.after(at, at, 0);
        }
        for (int sort = 0; sort < 4; sort++) {
            sum = 31 * sum + x.count(sort);
        }
        return sum;
    }

    /** The dearest run: nothing but texts; the limit is a tenth of the room's 7.3 million elements, four bytes each. */
    private static void room() {
        com.sun.management.ThreadMXBean threads =
            (com.sun.management.ThreadMXBean) java.lang.management.ManagementFactory.getThreadMXBean();
        long id = Thread.currentThread().getId();
        long before = threads.getThreadAllocatedBytes(id);
        PairedViews x = new PairedViews();
        x.text(0, PairedViews.NONE);
        for (int i = 2; i < CALLS; i++) {
            x.text(0, 0);
        }
        Check.due("room of texts", threads.getThreadAllocatedBytes(id) - before < 2_900_000L, true);
        PairedViews y = Check.with(0, Check.LAND);
        Check.tell(y, 1, PairedViews.NONE, "look 0 0;hour;");
        y.image(0);
        before = threads.getThreadAllocatedBytes(id);
        for (int i = 0; i < CALLS / 16; i++) {
            y.watch(0, 0);
            y.height(0, i % 5);
            y.need(0, i % 4, 50);
            y.meet(0, 0, i % 4);
            y.way(0, 0, i % 4, i % 2 == 0);
            y.drawn(0, i, 60, 10);
            y.state(0, 0, 2, 10);
            y.after(0, 0, 2);
            y.married(0, 0, true);
            y.unhappy(0);
            y.fits(0, 1, 2);
            y.words(0, 2);
            y.image(1);
            y.again(0);
        }
        Check.due("room of questions", threads.getThreadAllocatedBytes(id) - before < 20_000L, true);
    }
}
