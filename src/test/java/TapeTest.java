/** Promises 1 to 5 and 28 to 30: a new object, the tape, taking texts, the FAULT, counting, images. */
final class TapeTest {
    private static final int NONE = PairedViews.NONE;

    public static void main(String[] args) {
        newObject();
        feedAndEnd();
        text();
        takenUnread();
        apart();
        fault();
        count();
        images();
        imagesKeepAll();
        Check.finish();
    }

    private static void newObject() {
        PairedViews x = new PairedViews();
        Check.due("NONE", PairedViews.NONE, -1);
        for (int sort = 0; sort < 4; sort++) {
            Check.due("new: count " + sort, x.count(sort), 0);
        }
        Check.due("new: fault 0", x.fault(0), 0);
        Check.due("new: fault 1", x.fault(1), NONE);
        Check.due("new: country", x.country(0, 0), -2);
        Check.due("new: deed", x.deed(0, NONE, 0), -2);
        Check.due("new: view", x.view(0, NONE, 0), -2);
        Check.due("new: fact", x.fact(0, NONE, 0), -2);
        for (int k = -1; k < 4; k++) {
            Check.due("new: again " + k, x.again(k), false);
        }
        Check.due("new: end 1", x.end(1), NONE);
        Check.due("new: end 0", x.end(0), 0);
    }

    private static void feedAndEnd() {
        PairedViews x = new PairedViews();
        for (int i = 1; i <= 30; i++) {
            Check.due("feed " + i, x.feed(0x686f7572, 0x3b686f75, 0x723b686f, 0x75723b68, 0x6f75723b), 20 * i);
        }
        Check.due("feed, full", x.feed(1, 2, 3, 4, 5), NONE);
        Check.due("end 601", x.end(601), NONE);
        Check.due("end 600", x.end(600), 600);
        Check.due("end -1", x.end(-1), NONE);
        Check.due("end least", x.end(Integer.MIN_VALUE), NONE);
        Check.due("end most", x.end(Integer.MAX_VALUE), NONE);
        Check.due("end 581", x.end(581), 581);
        Check.due("feed to 601", x.feed(1, 2, 3, 4, 5), NONE);
        Check.due("end 580", x.end(580), 580);
        Check.due("end 581 then", x.end(581), NONE);
        Check.due("feed to 600", x.feed(0x20202020, 0x20202020, 0x20202020, 0x20202020, 0x20202020), 600);
        Check.due("end 7", x.end(7), 7);
        Check.due("feed behind 7", x.feed(0x75723b20, 0x20202020, 0x20202020, 0x20202020, 0x20202020), 27);
        Check.due("hour;ho and ur;", x.text(1, NONE), 0);
        Check.due("two DEEDS", x.deed(0, NONE, 0), 2);
    }

    private static void text() {
        PairedViews x = new PairedViews();
        Check.due("empty text", x.text(1, NONE), 0);
        Check.due("no DEEDS", x.deed(0, NONE, 0), 0);
        Check.due("in its place", Check.tell(x, 1, 0, "hour;"), 0);
        Check.due("tape empty then", x.end(1), NONE);
        Check.due("still one", x.count(1), 1);
        Check.due("one DEED", x.deed(0, NONE, 0), 1);
        Check.due("a further one", Check.tell(x, 1, NONE, "hour;hour;hour;"), 1);
        Check.due("a third", Check.tell(x, 1, NONE, "hour;hour;"), -2);
        Check.due("fault of none", x.fault(0), 0);
        Check.due("DEEDS of 0 as told", x.deed(0, NONE, 0), 1);
        Check.due("in the place of 0", Check.tell(x, 1, 0, "hour;hour;"), 0);
        Check.due("DEEDS of 0", x.deed(0, NONE, 0), 2);
        Check.due("DEEDS of 1", x.deed(1, NONE, 0), 3);
        Check.due("no place 2", x.text(1, 2), -2);
        Check.due("no place -2", x.text(1, -2), -2);
        Check.due("no place 0 of COUNTRIES", x.text(0, 0), -2);
        Check.due("no sort 4", x.text(4, NONE), -2);
        Check.due("no sort -1", x.text(-1, NONE), -2);
        Check.due("a FAULT", Check.tell(x, 1, 1, "hour;hours;"), NONE);
        Check.due("tape empty behind a FAULT", x.end(1), NONE);
        Check.due("DEEDS of 1 stay", x.deed(1, NONE, 0), 3);
        Check.due("fault", x.fault(0), 1);
        Check.due("-2 strikes the FAULT", x.text(1, NONE), -2);
        Check.due("fault then", x.fault(0), 0);
        Check.due("place then", x.fault(1), NONE);
    }

    /** The tape is empty behind every text(), also where -2 says that none was read. */
    private static void takenUnread() {
        PairedViews x = new PairedViews();
        x.text(1, NONE);
        x.text(1, NONE);
        int[][] unread = {{0, 0}, {0, 1}, {0, -2}, {1, NONE}, {1, 2}, {1, Integer.MAX_VALUE}, {2, Integer.MIN_VALUE},
            {4, NONE}, {4, 0}, {-1, NONE}, {Integer.MAX_VALUE, NONE}, {Integer.MIN_VALUE, 0}};
        for (int[] call : unread) {
            String name = "text(" + call[0] + ", " + call[1] + ")";
            Check.due("a FAULT ahead of " + name, Check.tell(x, 1, 0, "hours;"), NONE);
            Check.due("feed ahead of " + name, x.feed(0, 0, 0, 0, 0), 20);
            Check.due(name, x.text(call[0], call[1]), -2);
            Check.due("FAULT behind " + name, x.fault(0), 0);
            Check.due("place behind " + name, x.fault(1), NONE);
            Check.due("end(1) behind " + name, x.end(1), NONE);
            Check.due("feed behind " + name, x.feed(0, 0, 0, 0, 0), 20);
            Check.due("end(0) behind " + name, x.end(0), 0);
            Check.due("YEARS behind " + name, x.count(1), 2);
        }
    }

    /** Sorts are kept apart, and nothing of one text is left for the next. */
    private static void apart() {
        PairedViews x = new PairedViews();
        for (int i = 0; i < 2; i++) {
            Check.due("eight THINGS", Check.tell(x, 0, NONE, Check.times(8, "thing 1 1 1;") + "left 1;left 1;left 1;"), i);
            Check.due("40 DEEDS", Check.tell(x, 1, NONE, Check.times(40, "hour;")), i);
            Check.due("8 VIEWS", Check.tell(x, 2, NONE, Check.times(8, "left 1;")), i);
            Check.due("16 FACTS", Check.tell(x, 3, NONE, Check.times(16, "still 1;")), i);
        }
        Check.due("year -1", x.deed(-1, NONE, 0), -2);
        Check.due("sights -1", x.view(-1, NONE, 0), -2);
        Check.due("quarrels -1", x.fact(-1, NONE, 0), -2);
        Check.due("year 2", x.deed(2, NONE, 0), -2);
        Check.due("sights 2", x.view(2, NONE, 0), -2);
        Check.due("quarrels 2", x.fact(2, NONE, 0), -2);
        Check.due("country 2", x.country(2, 0), -2);
        Check.due("country -1", x.country(-1, 0), -2);
    }

    private static void fault() {
        PairedViews x = new PairedViews();
        Check.due("path 3 3", Check.tell(x, 0, NONE, "path 3 3;"), NONE);
        Check.due("fault 0", x.fault(0), 2);
        Check.due("fault 1", x.fault(1), 7);
        Check.due("fault 2", x.fault(2), NONE);
        Check.due("fault -1", x.fault(-1), NONE);
        Check.due("good text", x.text(0, NONE), 0);
        Check.due("fault 0 without", x.fault(0), 0);
        Check.due("fault 1 without", x.fault(1), NONE);
    }

    private static void count() {
        PairedViews x = new PairedViews();
        for (int sort = 0; sort < 4; sort++) {
            Check.due("first of " + sort, x.text(sort, NONE), 0);
            Check.due("count 1 of " + sort, x.count(sort), 1);
            Check.due("second of " + sort, x.text(sort, NONE), 1);
            Check.due("count 2 of " + sort, x.count(sort), 2);
            Check.due("third of " + sort, x.text(sort, NONE), -2);
            Check.due("count stays of " + sort, x.count(sort), 2);
        }
        Check.due("count 4", x.count(4), -2);
        Check.due("count -1", x.count(-1), -2);
        Check.due("count most", x.count(Integer.MAX_VALUE), -2);
        Check.due("count least", x.count(Integer.MIN_VALUE), -2);
    }

    private static void images() {
        PairedViews x = new PairedViews();
        Check.due("image 3", x.image(3), false);
        Check.due("image -1", x.image(-1), false);
        Check.due("image 0, of nothing", x.image(0), true);
        Check.due("again 1, never taken", x.again(1), false);
        Check.tell(x, 1, NONE, "hour;");
        Check.due("image 1", x.image(1), true);
        Check.tell(x, 1, 0, "hour;hour;");
        Check.tell(x, 1, NONE, "words 0;");
        Check.due("image 2", x.image(2), true);
        Check.due("again 1", x.again(1), true);
        Check.due("one YEAR", x.count(1), 1);
        Check.due("one DEED", x.deed(0, NONE, 0), 1);
        Check.due("again 0", x.again(0), true);
        Check.due("no YEAR", x.count(1), 0);
        Check.due("again 2", x.again(2), true);
        Check.due("two YEARS", x.count(1), 2);
        Check.due("two DEEDS", x.deed(0, NONE, 0), 2);
        Check.due("words", x.deed(1, 0, 0), 1);
        Check.tell(x, 1, 1, "peace 2;");
        Check.due("again 2, twice", x.again(2), true);
        Check.due("words again", x.deed(1, 0, 0), 1);
        Check.due("again 3", x.again(3), false);
        Check.due("again -1", x.again(-1), false);
    }

    private static void imagesKeepAll() {
        PairedViews x = Check.with(0, "thing 1 2 3;");
        Check.tell(x, 1, NONE, "hour;");
        Check.tell(x, 2, NONE, "left 4;");
        Check.tell(x, 3, NONE, "still 5;");
        Check.tell(x, 3, NONE, "still 9;");
        Check.tape(x, "hour;hour;");
        x.image(0);
        x.end(0);
        for (int sort = 0; sort < 4; sort++) {
            Check.due("another text", x.text(sort, 0), 0);
            Check.due("a further text", x.text(sort, NONE), 1);
        }
        Check.tape(x, "something other, and longer");
        Check.due("again", x.again(0), true);
        Check.due("FAULT", x.fault(0), 2);
        Check.due("place", x.fault(1), 6);
        Check.due("COUNTRY", x.country(0, 30), 3);
        Check.due("YEAR", x.deed(0, NONE, 0), 1);
        Check.due("SIGHTS", x.view(0, 0, 1), 4);
        Check.due("QUARRELS", x.fact(0, 0, 1), 5);
        Check.due("no more on the tape", x.end(11), NONE);
        Check.due("the tape", x.text(1, NONE), 1);
        Check.due("its DEEDS", x.deed(1, NONE, 0), 2);
    }
}
