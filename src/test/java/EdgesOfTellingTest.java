/** Sentence by sentence: promises 1 to 5 and 28 to 30, and what Terms 1 says of texts and their FAULTS. */
final class EdgesOfTellingTest {
    private static final int NONE = PairedViews.NONE;
    private static final int BLANKS = 0x20202020;
    private static final String[] GOOD = {"thing 1 1 1;", "hour;", "left 1;", "still 1;"};

    public static void main(String[] args) {
        newObject();
        bytesInTheirOrder();
        feedOfTooMuch();
        endCuts();
        endRefused();
        taken();
        itsNumber();
        faultsTellNothing();
        unread();
        atMostTwo();
        latestFault();
        counts();
        images();
        again();
        blanks();
        tokensAsLongAsTheyGo();
        numbersOfTwoDigits();
        theFirstFaultOfOne();
        lettersOfWords();
        everyLine();
        everyNumber();
        numbersThatCant();
        oneTooMany();
        toldOfAndNotThere();
        rings();
        eyesInTwoCouples();
        whichFaultGoesAhead();
        lastLines();
        Check.finish();
    }

    /** Every answer that is asked for by a place at which there is nothing. */
    private static void noneSuch(PairedViews x, int at) {
        String name = "at " + at + ": ";
        Check.due(name + "country", x.country(at, 0), -2);
        Check.due(name + "deed", x.deed(at, NONE, 0), -2);
        Check.due(name + "deed 0", x.deed(at, 0, 0), -2);
        Check.due(name + "till", x.till(at, at), NONE);
        Check.due(name + "state", x.state(at, at, 0, 0), -2);
        Check.due(name + "lasts", x.lasts(at, 0), NONE);
        Check.due(name + "watch", x.watch(at, NONE), NONE);
        Check.due(name + "way", x.way(at, 0, 0, false), NONE);
        Check.due(name + "surest", x.way(at, 0, 0, true), NONE);
        Check.due(name + "married", x.married(at, 0, false), -2);
        Check.due(name + "unhappy", x.unhappy(at), NONE);
        Check.due(name + "view", x.view(at, NONE, 0), -2);
        Check.due(name + "view 0", x.view(at, 0, 0), -2);
        Check.due(name + "fits", x.fits(at, 0, 0), -2);
        Check.due(name + "fact", x.fact(at, NONE, 0), -2);
        Check.due(name + "fact 0", x.fact(at, 0, 0), -2);
        Check.due(name + "words", x.words(at, 0), -2);
        Check.due(name + "drawn", x.drawn(at, 0, 0, 0), -2);
        Check.due(name + "need", x.need(at, 0, 0), NONE);
        Check.due(name + "keystone", x.keystone(at, false), -2);
        Check.due(name + "keystone, many", x.keystone(at, true), -2);
        Check.due(name + "height", x.height(at, 0), -2);
        Check.due(name + "meet", x.meet(at, 0, 0), NONE);
        Check.due(name + "after", x.after(at, at, 0), -2);
        Check.due(name + "wrong", x.wrong(at, 0, false), NONE);
        Check.due(name + "wrong, many", x.wrong(at, 0, true), NONE);
        Check.due(name + "tell", x.tell(at), NONE);
    }

    private static void newObject() {
        Check.by("No COUNTRIES, YEARS, SIGHTS, QUARRELS; no images.");
        PairedViews x = new PairedViews();
        for (int at = -2; at < 3; at++) {
            noneSuch(x, at);
        }
        for (int k = -1; k < 4; k++) {
            Check.due("again " + k, x.again(k), false);
        }
        for (int sort = 0; sort < 4; sort++) {
            Check.due("count " + sort, x.count(sort), 0);
            Check.due("text in the place of one", x.text(sort, 0), -2);
        }
        Check.due("the tape has nothing", x.end(1), NONE);
        PairedViews full = two();
        noneSuch(new PairedViews(), 0);
        noneSuch(full, 2);
        noneSuch(full, -1);
        noneSuch(full, Integer.MAX_VALUE);
        noneSuch(full, Integer.MIN_VALUE);
    }

    /** Two texts of each sort. */
    private static PairedViews two() {
        PairedViews x = new PairedViews();
        for (int sort = 0; sort < 4; sort++) {
            Check.due("first of " + sort, Check.tell(x, sort, NONE, GOOD[sort]), 0);
            Check.due("second of " + sort, Check.tell(x, sort, NONE, GOOD[sort]), 1);
        }
        return x;
    }

    /** A byte at each of the twenty places, blanks at the others: the FAULT tells where it came. */
    private static void bytesInTheirOrder() {
        Check.by("twenty bytes come behind it, of each number the highest first: how many it has");
        for (int sign : new int[] {'!', 0, 127, 128, 255}) {
            for (int place = 0; place < 40; place++) {
                PairedViews x = new PairedViews();
                int[] words = new int[10];
                for (int i = 0; i < 40; i++) {
                    words[i / 4] = words[i / 4] << 8 | (i == place ? sign : 32);
                }
                Check.due("first feed", x.feed(words[0], words[1], words[2], words[3], words[4]), 20);
                Check.due("second feed", x.feed(words[5], words[6], words[7], words[8], words[9]), 40);
                Check.due("text", x.text(1, NONE), NONE);
                Check.due("place of byte " + sign, x.fault(1), place);
            }
        }
    }

    private static void feedOfTooMuch() {
        Check.by("NONE, and nothing comes, if there would be more than 600");
        for (int had = 580; had <= 600; had++) {
            PairedViews x = new PairedViews();
            Check.tape(x, "hour;" + Check.times(595, " "));
            Check.due("to " + had, x.end(had), had);
            Check.due("feed at " + had, x.feed(0, 0, 0, 0, 0), had == 580 ? 600 : NONE);
            if (had > 580) {
                Check.due("no more than " + had, x.end(had + 1), NONE);
                Check.due("no less than " + had, x.end(had), had);
                Check.due("as it was", x.text(1, NONE), 0);
            }
        }
    }

    private static void endCuts() {
        Check.by("The tape has its first n bytes alone: n.");
        for (int n = 0; n <= 40; n++) {
            PairedViews x = new PairedViews();
            Check.tape(x, Check.times(8, "hour;"));
            Check.due("end " + n, x.end(n), n);
            Check.due("no more", x.end(n + 1), NONE);
            Check.due("what was behind is lost", x.feed(BLANKS, BLANKS, BLANKS, BLANKS, BLANKS), n + 20);
            if (n % 5 == 0) {
                Check.due("text of " + n, x.text(1, NONE), 0);
                Check.due("DEEDS of " + n, x.deed(0, NONE, 0), n / 5);
            } else {
                Check.due("text of " + n, x.text(1, NONE), NONE);
            }
        }
    }

    private static void endRefused() {
        Check.by("NONE if it has not so many, or n is below 0.");
        PairedViews x = new PairedViews();
        Check.tape(x, "hour;hour;");
        for (int n : new int[] {11, 12, 600, 601, Integer.MAX_VALUE, -1, -2, Integer.MIN_VALUE}) {
            Check.due("end " + n, x.end(n), NONE);
        }
        Check.due("all of it is there", x.end(10), 10);
        Check.due("text", x.text(1, NONE), 0);
        Check.due("DEEDS", x.deed(0, NONE, 0), 2);
        Check.due("end 0 of nothing", x.end(0), 0);
        Check.due("end 1 of nothing", x.end(1), NONE);
    }

    private static void taken() {
        Check.by("The tape is taken (and is empty then) as a text of a sort");
        for (int sort = 0; sort < 4; sort++) {
            PairedViews x = new PairedViews();
            Check.due("a further one", Check.tell(x, sort, NONE, GOOD[sort]), 0);
            Check.due("empty behind it", x.end(1), NONE);
            Check.due("in its place", Check.tell(x, sort, 0, GOOD[sort]), 0);
            Check.due("empty behind it", x.end(1), NONE);
            Check.due("a FAULT", Check.tell(x, sort, NONE, "!"), NONE);
            Check.due("empty behind a FAULT", x.end(1), NONE);
            Check.due("none such", Check.tell(x, sort, 1, GOOD[sort]), -2);
            Check.due("empty behind -2", x.end(1), NONE);
            Check.due("of nothing", x.text(sort, NONE), 1);
            Check.due("as many as may be", Check.tell(x, sort, NONE, GOOD[sort]), -2);
            Check.due("empty behind -2", x.end(1), NONE);
            Check.due("another sort's text", Check.tell(x, (sort + 1) % 4, NONE, GOOD[sort]), NONE);
        }
    }

    /** Something that tells the two texts of a sort apart. */
    private static int mark(PairedViews x, int sort, int at) {
        int[] marks = {x.country(at, 10), x.deed(at, 0, 1), x.view(at, 0, 1), x.fact(at, 0, 1)};
        return marks[sort];
    }

    private static String marked(int sort, int mark) {
        String[] texts = {"thing " + mark + " 0 0;", "words " + mark + ";", "left " + mark + ";", "still " + mark + ";"};
        return texts[sort];
    }

    private static void itsNumber() {
        Check.by("a further one (at NONE), or in the place of one: its number");
        for (int sort = 0; sort < 4; sort++) {
            PairedViews x = new PairedViews();
            Check.due("first", Check.tell(x, sort, NONE, marked(sort, 0)), 0);
            Check.due("second", Check.tell(x, sort, NONE, marked(sort, 1)), 1);
            Check.due("0 is the first", mark(x, sort, 0), 0);
            Check.due("1 is the second", mark(x, sort, 1), 1);
            Check.due("in the place of 1", Check.tell(x, sort, 1, marked(sort, 2)), 1);
            Check.due("0 stays", mark(x, sort, 0), 0);
            Check.due("1 is another", mark(x, sort, 1), 2);
            Check.due("in the place of 0", Check.tell(x, sort, 0, marked(sort, 3)), 0);
            Check.due("0 is another", mark(x, sort, 0), 3);
            Check.due("1 stays", mark(x, sort, 1), 2);
            Check.due("two of them", x.count(sort), 2);
        }
    }

    private static void faultsTellNothing() {
        Check.by("NONE: a FAULT.");
        for (int sort = 0; sort < 4; sort++) {
            PairedViews x = new PairedViews();
            Check.tell(x, sort, NONE, marked(sort, 1));
            for (int at = NONE; at < 1; at++) {
                String[] faults = {"!", marked(sort, 1) + ";", "1", marked(sort, 1) + "left"};
                for (String text : faults) {
                    Check.due("text " + text, Check.tell(x, sort, at, text), NONE);
                    Check.due("one of them behind " + text, x.count(sort), 1);
                    Check.due("as it was behind " + text, mark(x, sort, 0), 1);
                }
            }
        }
        PairedViews x = Check.with(0, marked(0, 7));
        String[] late = {"path 0 1;", "thing 1 0 0;thing 1 0 0;rests 0 1;rests 1 0;", "left 1;right 1;couple 0 0;couple 0 0;"};
        for (int i = 0; i < late.length; i++) {
            for (int at = NONE; at < 1; at++) {
                Check.due("text " + late[i], Check.tell(x, 0, at, late[i]), NONE);
                Check.due("fault of " + late[i], x.fault(0), 4 + i);
                Check.due("one COUNTRY", x.count(0), 1);
                Check.due("as it was", x.country(0, 10), 7);
            }
        }
    }

    private static void unread() {
        Check.by("-2: there is none such, there are as many as may be, or no such sort (no text is read then, FAULT 0).");
        PairedViews x = two();
        int[][] calls = {{0, 2}, {0, NONE}, {1, 3}, {1, NONE}, {2, -2}, {2, NONE}, {3, 2}, {3, NONE}, {4, NONE}, {4, 0},
            {-1, NONE}, {-1, 0}, {-2, 1}, {Integer.MAX_VALUE, NONE}, {Integer.MIN_VALUE, 0}, {0, Integer.MAX_VALUE}};
        for (int[] call : calls) {
            String name = "text(" + call[0] + ", " + call[1] + ")";
            Check.due("a FAULT ahead", Check.tell(x, 2, 0, "left 10;"), NONE);
            Check.due("its number", x.fault(0), 2);
            Check.due(name + " of a text with a FAULT", Check.tell(x, call[0], call[1], "!"), -2);
            Check.due("FAULT behind " + name, x.fault(0), 0);
            Check.due("place behind " + name, x.fault(1), NONE);
            for (int sort = 0; sort < 4; sort++) {
                Check.due("count behind " + name, x.count(sort), 2);
                Check.due("as told behind " + name, mark(x, sort, 0), sort == 1 ? NONE : 1);
            }
        }
    }

    private static void atMostTwo() {
        Check.by("COUNTRIES, at most 2 (sort 0), YEARS, at most 2 (1), SIGHTS, at most 2 texts of them (2), QUARRELS, at most 2 (3), from 0 on.");
        for (int sort = 0; sort < 4; sort++) {
            PairedViews x = new PairedViews();
            int[] answers = {0, 1, -2, -2};
            int[] counts = {1, 2, 2, 2};
            for (int i = 0; i < 4; i++) {
                Check.due("text " + i + " of sort " + sort, Check.tell(x, sort, NONE, marked(sort, i)), answers[i]);
                for (int of = 0; of < 4; of++) {
                    Check.due("count " + of, x.count(of), of == sort ? counts[i] : 0);
                }
            }
            Check.due("0 is as it was", mark(x, sort, 0), 0);
            Check.due("1 is as it was", mark(x, sort, 1), 1);
            Check.due("there is no 2", mark(x, sort, 2), -2);
        }
    }

    private static void latestFault() {
        Check.by("Of the latest text(), what 0: the FAULT, 0 without, 1: its place, NONE without.");
        PairedViews x = new PairedViews();
        Check.due("ahead of any text", x.fault(0), 0);
        Check.due("ahead of any text", x.fault(1), NONE);
        Check.due("a FAULT at 0", Check.tell(x, 1, NONE, "!"), NONE);
        Check.due("FAULT", x.fault(0), 1);
        Check.due("its place", x.fault(1), 0);
        Check.tape(x, "hour;");
        x.count(1);
        x.till(0, 0);
        x.image(1);
        Check.due("FAULT behind other calls", x.fault(0), 1);
        Check.due("place behind other calls", x.fault(1), 0);
        Check.due("a good text", x.text(1, NONE), 0);
        Check.due("without", x.fault(0), 0);
        Check.due("place without", x.fault(1), NONE);
        Check.due("another FAULT", Check.tell(x, 0, NONE, "left 0;"), NONE);
        Check.due("FAULT", x.fault(0), 2);
        Check.due("its place", x.fault(1), 5);
        Check.by("NONE for another what.");
        for (int what : new int[] {-1, 2, 3, -2, Integer.MAX_VALUE, Integer.MIN_VALUE}) {
            Check.due("fault " + what, x.fault(what), NONE);
        }
    }

    private static void counts() {
        Check.by("How many there are of a sort.");
        PairedViews x = new PairedViews();
        int[] due = new int[4];
        for (int i = 0; i < 8; i++) {
            int sort = 3 * i % 4;
            x.text(sort, NONE);
            due[sort]++;
            for (int of = 0; of < 4; of++) {
                Check.due("count " + of, x.count(of), due[of]);
            }
        }
        Check.by("-2 for another one.");
        for (int sort : new int[] {-1, -2, 4, 5, Integer.MAX_VALUE, Integer.MIN_VALUE}) {
            Check.due("count " + sort, x.count(sort), -2);
        }
    }

    private static void images() {
        Check.by("all that is told (the tape, the FAULT, too), as it is now: true; false for another k");
        PairedViews x = new PairedViews();
        for (int k : new int[] {-1, -2, 3, 4, 32, Integer.MAX_VALUE, Integer.MIN_VALUE}) {
            Check.due("image " + k, x.image(k), false);
        }
        for (int k = 0; k < 3; k++) {
            Check.due("again " + k + " of none", x.again(k), false);
        }
        for (int k = 0; k < 3; k++) {
            for (int sort = 0; sort < 4; sort++) {
                Check.tell(x, sort, k == 0 ? NONE : 0, marked(sort, k));
            }
            Check.tell(x, 2, NONE, Check.times(k, " ") + "!");
            Check.tape(x, Check.times(k + 1, "hour;"));
            Check.due("image " + k, x.image(k), true);
            x.end(0);
        }
        for (int k = 2; k >= 0; k--) {
            Check.due("again " + k, x.again(k), true);
            for (int sort = 0; sort < 4; sort++) {
                Check.due("mark of " + k, mark(x, sort, 0), k);
                Check.due("count of " + k, x.count(sort), 1);
            }
            Check.due("FAULT of " + k, x.fault(0), 1);
            Check.due("place of " + k, x.fault(1), k);
            Check.due("tape of " + k, x.end(5 * k + 6), NONE);
            Check.due("tape of " + k, x.text(1, NONE), 1);
            Check.due("its DEEDS", x.deed(1, NONE, 0), k + 1);
        }
        Check.due("image 1, another one now", x.image(1), true);
        x.again(2);
        Check.due("again 1", x.again(1), true);
        Check.due("as it was then", x.count(1), 2);
        Check.due("as it was then", mark(x, 0, 0), 0);
    }

    private static void again() {
        Check.by("All that is as image k has it: true; false if there is none such.");
        PairedViews x = two();
        Check.tell(x, 0, NONE, "");
        Check.tell(x, 3, 0, "still 8;");
        Check.tape(x, "hour;");
        for (int k : new int[] {-1, 0, 1, 2, 3, 32, Integer.MAX_VALUE, Integer.MIN_VALUE}) {
            Check.due("again " + k + " of none", x.again(k), false);
            Check.due("the tape is as it was", x.end(5), 5);
            Check.due("the FAULT is as it was", x.fault(0), 2);
            Check.due("all is as it was", x.count(3), 2);
        }
        PairedViews y = new PairedViews();
        y.image(2);
        Check.tell(y, 1, NONE, "hour;");
        for (int i = 0; i < 3; i++) {
            Check.due("again, as often as one likes", y.again(2), true);
            noneSuch(y, 0);
            Check.due("a YEAR behind it", Check.tell(y, 1, NONE, "hour;"), 0);
        }
        Check.due("images are no part of images", y.again(0), false);
        y.image(0);
        y.again(2);
        Check.due("an image that came behind it", y.again(0), true);
        Check.due("one YEAR", y.count(1), 1);
    }

    private static void fault(int sort, String text, int number, int place) {
        PairedViews x = new PairedViews();
        Check.due("text " + text, Check.tell(x, sort, NONE, text), number == 0 ? 0 : NONE);
        Check.due("fault of " + text, x.fault(0), number);
        Check.due("place of " + text, x.fault(1), place);
    }

    private static void good(int sort, String text) {
        fault(sort, text, 0, NONE);
    }

    private static void blanks() {
        Check.by("blanks (10, 32) between");
        for (int sign = 0; sign < 256; sign++) {
            boolean blank = sign == 10 || sign == 32;
            fault(1, "hour" + (char) 10 + ";" + (char) sign + "hour;", blank ? 0 : 1, blank ? NONE : 6);
        }
        good(1, "");
        good(1, " ");
        good(1, "\n");
        good(1, "hour; \n");
        good(1, Check.times(600, " "));
        good(1, Check.times(595, "\n") + "hour;");
        good(1, "hour" + Check.times(595, " ") + ";");
        fault(1, "hour" + Check.times(596, " "), 1, 600);
    }

    private static void tokensAsLongAsTheyGo() {
        Check.by("TOKENS, as long as they go");
        fault(1, "hourhour;", 1, 0);
        fault(1, "hour hour;", 1, 5);
        fault(1, "wordspeace 0;", 1, 0);
        fault(1, "words00;", 0, NONE);
        fault(1, "look12;", 1, 6);
        fault(1, "look1 2;", 0, NONE);
        fault(1, "look 1 2 3;", 1, 9);
        fault(1, "hou r;", 1, 0);
        fault(0, "thing 1 2 3;rests0 0;", 2, 19);
        fault(1, "words 0;;", 1, 8);
        fault(1, "hour;;hour;", 1, 5);
    }

    private static void numbersOfTwoDigits() {
        Check.by("NUMBERS, 1 or 2 digits");
        for (int n = 0; n < 100; n++) {
            PairedViews x = Check.with(0, "thing " + n + " 0 0;");
            Check.due("SOLID " + n, x.country(0, 10), n);
        }
        for (int n = 0; n < 10; n++) {
            PairedViews x = Check.with(0, "thing 0" + n + " 0" + n + " 0" + n + ";");
            Check.due("SOLID 0" + n, x.country(0, 10), n);
            Check.due("WEIGHT 0" + n, x.country(0, 20), n);
            Check.due("THINS 0" + n, x.country(0, 30), n);
        }
        Check.by("a longer row of digits is no token");
        fault(0, "thing 100 0 0;", 1, 6);
        fault(0, "thing 001 0 0;", 1, 6);
        fault(0, "thing 1 000 0;", 1, 8);
        fault(0, "thing 1 0 0000;", 1, 10);
        fault(0, "hand 4294967299;", 1, 5);
        fault(0, "hand " + Check.times(595, "0"), 1, 5);
        fault(0, "hand 3;000", 1, 7);
    }

    private static void theFirstFaultOfOne() {
        Check.by("1 the first byte or token with which no text goes on");
        // Each start of a good text goes on: where it ends there is the FAULT, or at a word or row that is cut.
        String text = "thing 20 3 2;left 5;hand 3;";
        for (int n = 0; n <= text.length(); n++) {
            String start = text.substring(0, n);
            boolean whole = start.isEmpty() || start.endsWith(";");
            int word = n > 0 && n < 5 ? 0 : n > 13 && n < 17 ? 13 : n > 20 && n < 24 ? 20 : n;
            fault(0, start, whole ? 0 : 1, whole ? NONE : word);
        }
        for (int sort = 0; sort < 4; sort++) {
            for (int other = 0; other < 4; other++) {
                boolean goesOn = sort == other || sort == 0 && other == 2;
                fault(sort, GOOD[other], goesOn ? 0 : 1, goesOn ? NONE : 0);
            }
        }
        good(2, "left 1;right 1;");
        fault(2, "left 1;thing 1 1 1;", 1, 7);
        // Of several the first.
        fault(1, "hours;hours;", 1, 0);
        fault(1, "hour;!;!;", 1, 5);
        fault(1, "hour;words;hour;peace;!", 1, 10);
        fault(1, "look a b;look 1;", 1, 5);
        fault(1, "hour 1 2 3;hour;", 1, 5);
        fault(1, "hour;1;hour;", 1, 5);
        fault(1, ";hour;", 1, 0);
    }

    private static void lettersOfWords() {
        Check.by("words, rows of letters a .. z");
        for (int i = 0; i < 4; i++) {
            for (int sign = 0; sign < 256; sign++) {
                if (sign != "hour".charAt(i)) {
                    // Whatever stands there, the first token is none of a YEAR's, or none at all.
                    boolean blank = sign == 10 || sign == 32;
                    fault(1, "hour".substring(0, i) + (char) sign + "hour".substring(i + 1) + ";", 1, i == 0 && blank ? 1 : 0);
                }
            }
        }
        Check.by("; one byte");
        for (int sign = 0; sign < 256; sign++) {
            boolean letter = sign >= 'a' && sign <= 'z';
            boolean blank = sign == 10 || sign == 32;
            boolean good = sign == ';';
            fault(1, "hour" + (char) sign, good ? 0 : 1, good ? NONE : letter ? 0 : blank ? 5 : 4);
        }
    }

    /** The words of each sort, and how many NUMBERS go with each. */
    private static final String[][] WORDS = {
        {"thing", "rests", "path", "couple", "left", "right", "hand", "likes", "liked"},
        {"look", "words", "peace", "mirror", "hour"},
        {"straight", "right", "left"},
        {"looked", "shimmers", "still"}};
    private static final int[][] NUMBERS = {{3, 2, 2, 2, 1, 1, 1, 3, 3}, {2, 1, 1, 1, 0}, {1, 1, 1}, {2, 1, 1}};

    private static int numbersOf(int sort, String word) {
        for (int i = 0; i < WORDS[sort].length; i++) {
            if (WORDS[sort][i].equals(word)) {
                return NUMBERS[sort][i];
            }
        }
        return NONE;
    }

    /** Every word in every sort's text, with none to four NUMBERS, ended or not. */
    private static void everyLine() {
        Check.by("A COUNTRY's text: {('thing' NUMBER NUMBER NUMBER | ('rests' | 'path' | 'couple') NUMBER NUMBER"
            + " | ('left' | 'right' | 'hand') NUMBER | ('likes' | 'liked') NUMBER NUMBER NUMBER) ';'}");
        String ahead = "thing 1 0 0;thing 1 0 0;left 1;left 1;right 1;right 1;";
        for (int sort = 0; sort < 4; sort++) {
            for (String[] words : WORDS) {
                for (String word : words) {
                    for (int n = 0; n <= 4; n++) {
                        lineOf(sort, sort == 0 ? ahead : "", word, n);
                    }
                }
            }
        }
    }

    private static void lineOf(int sort, String ahead, String word, int n) {
        String line = ahead + word + " 1 0 1 0".substring(0, 2 * n);
        int due = numbersOf(sort, word);
        int start = ahead.length();
        int place = due < 0 ? start : start + word.length() + (n > due ? 2 * due + 1 : 2 * n);
        boolean good = due == n;
        fault(sort, line + ";", good ? 0 : 1, good ? NONE : place);
        fault(sort, line, 1, due >= 0 && n <= due ? line.length() : place);
        fault(sort, line + ";;", 1, good ? line.length() + 1 : place);
        // A word where a NUMBER, or the end of the line, is due.
        boolean goesOn = due >= 0 && n <= due;
        fault(sort, line + " " + word + ";", 1, goesOn ? line.length() + 1 : place);
        fault(sort, line + "\n123;", 1, goesOn ? line.length() + 1 : place);
    }

    /** Every NUMBER of two digits at every place for one: it is FAULT 2 there, or no FAULT 2. */
    private static void everyNumber() {
        Check.by("SOLID, 0 .. 99, WEIGHT, 0 .. 9, THINS, 0 .. 9");
        everyNumber(0, "thing ", " 0 0;", 0, 99);
        everyNumber(0, "thing 0 ", " 0;", 0, 9);
        everyNumber(0, "thing 0 0 ", ";", 0, 9);
        Check.by("(thing: SOLID, WEIGHT, THINS; rests: a THING, 0 .. 7, on which; path: two THINGS; couple: a LEFT, 0 .. 3, a RIGHT one;"
            + " left, right: SIGHT; likes: a LEFT one, a RIGHT one, how much; liked: a RIGHT one, a LEFT one, how much)");
        everyNumber(0, "rests ", " 0;", 0, 7);
        everyNumber(0, "rests 0 ", ";", 1, 7);
        everyNumber(0, "path ", " 0;", 0, 7);
        everyNumber(0, "path 0 ", ";", 1, 7);
        everyNumber(0, "couple ", " 0;", 0, 3);
        everyNumber(0, "couple 0 ", ";", 0, 3);
        everyNumber(0, "left ", ";", 1, 9);
        everyNumber(0, "right ", ";", 1, 9);
        everyNumber(0, "hand ", ";", 0, 9);
        for (String word : new String[] {"likes ", "liked "}) {
            everyNumber(0, word, " 0 0;", 0, 3);
            everyNumber(0, word + "0 ", " 0;", 0, 3);
            everyNumber(0, word + "0 0 ", ";", 0, 9);
        }
        Check.by("(look: a COUPLE, 0 .. 3, a THING; words, peace: a COUPLE; mirror: a THING)");
        everyNumber(1, "look ", " 0;", 0, 3);
        everyNumber(1, "look 0 ", ";", 0, 7);
        everyNumber(1, "words ", ";", 0, 3);
        everyNumber(1, "peace ", ";", 0, 3);
        everyNumber(1, "mirror ", ";", 0, 7);
        Check.by("from a COLUMN, 0 .. 9");
        everyNumber(2, "straight ", ";", 0, 9);
        everyNumber(2, "right ", ";", 0, 9);
        everyNumber(2, "left ", ";", 0, 9);
        Check.by("a COUPLE, 0 .. 3, LOOKED at a THING, 0 .. 7; or a THING SHIMMERS, or is STILL.");
        everyNumber(3, "looked ", " 0;", 0, 3);
        everyNumber(3, "looked 0 ", ";", 0, 7);
        everyNumber(3, "shimmers ", ";", 0, 7);
        everyNumber(3, "still ", ";", 0, 7);
    }

    private static void everyNumber(int sort, String ahead, String behind, int least, int most) {
        for (int n = 0; n < 100; n++) {
            PairedViews x = new PairedViews();
            String text = ahead + n + behind;
            Check.tell(x, sort, NONE, text);
            // Of rests and path the first NUMBER may be the second one's: that is where the FAULT is then.
            boolean same = n == 0 && behind.equals(" 0;") && (ahead.equals("rests ") || ahead.equals("path "));
            boolean fits = n >= least && n <= most && !same;
            Check.due("FAULT 2 of " + text, x.fault(0) == 2, !fits);
            if (!fits) {
                Check.due("place of " + text, x.fault(1), ahead.length() + (same ? 2 : 0));
            }
        }
    }

    /** A line with one number after the other one too large, or one too small. */
    private static void tops(int sort, String word, String ahead, int... tops) {
        for (int i = 0; i < tops.length; i++) {
            StringBuilder line = new StringBuilder(word);
            int place = 0;
            for (int k = 0; k < tops.length; k++) {
                line.append(' ');
                place = k == i ? line.length() : place;
                line.append(k == i ? tops[k] + 1 : k == 0 ? 1 : 0);
            }
            fault(sort, ahead + line + ";", 2, ahead.length() + place);
        }
    }

    private static void numbersThatCant() {
        Check.by("2 a NUMBER that can't be");
        fault(0, "thing 99 10 0;", 2, 9);
        fault(0, "thing 99 9 10;", 2, 11);
        good(0, "thing 99 9 9;");
        good(0, "thing 0 0 0;");
        tops(0, "rests", "", 7, 7);
        tops(0, "path", "", 7, 7);
        tops(0, "couple", "", 3, 3);
        tops(0, "left", "", 9);
        tops(0, "right", "", 9);
        tops(0, "hand", "", 9);
        tops(0, "likes", "", 3, 3, 9);
        tops(0, "liked", "", 3, 3, 9);
        tops(1, "look", "hour;", 3, 7);
        tops(1, "words", "hour;", 3);
        tops(1, "peace", "hour;", 3);
        tops(1, "mirror", "hour;", 7);
        tops(2, "straight", "left 9;", 9);
        tops(2, "right", "left 9;", 9);
        tops(2, "left", "left 9;", 9);
        tops(3, "looked", "still 7;", 3, 7);
        tops(3, "shimmers", "still 7;", 7);
        tops(3, "still", "still 7;", 7);
        fault(0, "left 0;", 2, 5);
        fault(0, "right 00;", 2, 6);
        good(0, "left 1;right 1;left 9;right 9;hand 9;hand 0;");
        String eyes = Check.times(4, "left 1;right 1;");
        good(0, eyes + "couple 3 3;likes 3 3 9;liked 3 3 9;likes 0 3 0;likes 3 0 0;liked 0 3 9;liked 3 0 9;");
        good(0, Check.times(8, "thing 1 0 0;") + "rests 7 0;rests 6 7;path 7 0;path 0 7;");
        good(1, "look 3 7;look 0 0;words 3;words 0;peace 3;peace 0;mirror 7;mirror 0;");
        good(2, "straight 9;straight 0;right 9;right 0;left 9;left 0;");
        good(3, "looked 3 7;looked 0 0;shimmers 7;shimmers 0;still 7;still 0;");
        Check.by("of rests, path the second THING, if it is the first");
        for (int t = 0; t < 8; t++) {
            fault(0, "rests " + t + " " + t + ";", 2, 8);
            fault(0, "path " + t + " " + t + ";", 2, 7);
            fault(0, "rests 0" + t + " " + t + ";", 2, 9);
        }
        fault(0, "rests 9 9;", 2, 6);
        good(0, "left 1;left 1;right 1;right 1;couple 1 1;likes 1 1 1;liked 1 1 1;");
        good(1, "look 1 1;");
        good(3, "looked 1 1;");
    }

    private static void oneTooMany() {
        Check.by("3 a 9th THING, a 13th PATH, a 5th LEFT, a 5th RIGHT one, a 5th COUPLE, a 41st DEED, a 9th VIEW, a 17th FACT,"
            + " at its first token.");
        String[] lines = {"thing 1 1 1;", "path 0 1;", "left 1;", "right 1;", "couple 0 0;"};
        int[] most = {8, 12, 4, 4, 4};
        for (int i = 0; i < lines.length; i++) {
            fault(0, Check.times(most[i], lines[i]) + "  " + lines[i], 3, most[i] * lines[i].length() + 2);
            fault(0, Check.times(most[i] + 1, lines[i]) + "hand 10;", 3, most[i] * lines[i].length());
        }
        String[] deeds = {"look 0 0;", "words 0;", "peace 0;", "mirror 0;", "hour;"};
        for (String first : deeds) {
            for (String last : deeds) {
                good(1, Check.times(40, first));
                fault(1, Check.times(40, first) + last, 3, 40 * first.length());
            }
        }
        String[] views = {"straight 0;", "right 0;", "left 0;"};
        String[] facts = {"looked 0 0;", "shimmers 0;", "still 0;"};
        for (int i = 0; i < 3; i++) {
            for (int k = 0; k < 3; k++) {
                good(2, Check.times(8, views[i]));
                fault(2, Check.times(8, views[i]) + views[k], 3, 8 * views[i].length());
                good(3, Check.times(16, facts[i]));
                fault(3, Check.times(16, facts[i]) + facts[k], 3, 16 * facts[i].length());
            }
        }
        Check.due("40 DEEDS", Check.with(1, Check.times(39, "hour;") + "words 3;").deed(0, 39, 1), 3);
        Check.due("8 VIEWS", Check.with(2, Check.times(7, "left 1;") + "left 3;").view(0, 7, 1), 3);
        Check.due("16 FACTS", Check.with(3, Check.times(15, "still 1;") + "still 3;").fact(0, 15, 1), 3);
        // What strikes is as much as one likes.
        PairedViews x = Check.with(0, Check.times(85, "hand 9;"));
        Check.due("HAND told 85 times", x.country(0, 5), 9);
        x = Check.with(0, Check.times(99, "hand1;") + "hand2;");
        Check.due("HAND told 100 times", x.country(0, 5), 2);
        x = Check.with(0, "left 1;right 1;" + Check.times(24, "likes 0 0 1;") + Check.times(24, "liked 0 0 2;"));
        Check.due("LIKES told 24 times", x.country(0, 140), 1);
        Check.due("and the other way", x.country(0, 160), 2);
    }

    private static void toldOfAndNotThere() {
        Check.by("4 a THING, a LEFT, a RIGHT one that was told of and is not there");
        String[] lines = {"rests 0 N;", "rests N 0;", "path 0 N;", "path N 0;"};
        for (int t = 1; t < 8; t++) {
            for (String line : lines) {
                String text = Check.times(t, "thing 1 0 0;") + line;
                fault(0, text.replace("N", "" + t), 4, text.length());
                fault(0, text.replace("N", "7"), 4, text.length());
                if (t > 1) {
                    good(0, text.replace("N", "" + (t - 1)));
                }
            }
        }
        String[] pairs = {"couple L R;", "likes L R 5;", "liked R L 5;"};
        for (int l = 1; l < 4; l++) {
            for (int r = 1; r < 4; r++) {
                for (String line : pairs) {
                    String text = Check.times(l, "left 1;") + Check.times(r, "right 1;") + line;
                    fault(0, text.replace("L", "" + (l - 1)).replace("R", "" + r), 4, text.length());
                    fault(0, text.replace("L", "" + l).replace("R", "" + (r - 1)), 4, text.length());
                    fault(0, text.replace("L", "0").replace("R", "3"), 4, text.length());
                    fault(0, text.replace("L", "3").replace("R", "0"), 4, text.length());
                    good(0, text.replace("L", "" + (l - 1)).replace("R", "" + (r - 1)));
                }
            }
        }
        // It may be told later; a YEAR and QUARRELS may tell of what no COUNTRY has.
        good(0, "path 0 1;rests 1 0;couple 0 0;likes 0 0 1;liked 0 0 1;thing 1 0 0;thing 1 0 0;left 1;right 1;");
        good(1, "look 3 7;mirror 7;");
        good(3, "looked 3 7;");
        fault(0, "path 0 1;  \n", 4, 12);
    }

    private static void rings() {
        Check.by("5 THINGS that REST on one another in a ring");
        for (int n = 2; n <= 8; n++) {
            StringBuilder text = new StringBuilder(Check.times(n, "thing 1 0 0;"));
            for (int t = 0; t + 1 < n; t++) {
                text.append("rests ").append(t).append(' ').append(t + 1).append(';');
            }
            good(0, text.toString());
            for (int on = 0; on + 1 < n; on++) {
                String ring = text + "rests " + (n - 1) + " " + on + ";";
                fault(0, ring, 5, ring.length());
            }
        }
        // A ring that a later line strikes is none.
        good(0, "thing 1 0 0;thing 1 0 0;thing 1 0 0;rests 0 1;rests 1 0;rests 0 2;");
        fault(0, "thing 1 0 0;thing 1 0 0;thing 1 0 0;rests 0 2;rests 1 0;rests 0 1;", 5, 66);
    }

    private static void eyesInTwoCouples() {
        Check.by("6 an eye that is in two COUPLES");
        String eyes = Check.times(4, "left 1;right 1;");
        for (int a = 0; a < 4; a++) {
            for (int b = 0; b < 4; b++) {
                for (int c = 0; c < 4; c++) {
                    String text = eyes + "couple " + a + " 0;couple " + b + " " + c + ";";
                    boolean two = a == b || c == 0;
                    fault(0, text, two ? 6 : 0, two ? text.length() : NONE);
                }
            }
        }
        String text = eyes + "couple 0 3;couple 1 2;couple 2 1;couple 3 3;";
        fault(0, text, 6, text.length());
        good(0, eyes + "couple 0 3;couple 1 2;couple 2 1;couple 3 0;");
    }

    private static void whichFaultGoesAhead() {
        Check.by("If there is none, the first by place, of one place the least");
        fault(0, "left 0;!", 1, 7);
        fault(0, Check.times(5, "left 1;") + "!", 1, 35);
        fault(0, "path 0 1;!", 1, 9);
        fault(0, "left 0;right 0;", 2, 5);
        fault(0, "thing 1 10 10;", 2, 8);
        fault(0, Check.times(4, "left 1;") + "right 0;left 1;", 2, 34);
        fault(0, Check.times(4, "left 1;") + "left 1;right 0;", 3, 28);
        fault(0, Check.times(4, "left 1;") + "left 0;", 3, 28);
        fault(0, "left 0;" + Check.times(4, "left 1;"), 2, 5);
        Check.by("a line with such a NUMBER tells its THING, PATH, eye, COUPLE, DEED, VIEW, FACT all the same");
        fault(0, Check.times(8, "thing 1 0 0;") + "thing 1 10 10;", 3, 96);
        fault(0, Check.times(12, "path 0 1;") + "path 8 8;", 3, 108);
        fault(0, Check.times(4, "right 1;") + "right 10;", 3, 32);
        fault(0, Check.times(4, "couple 0 0;") + "couple 4 4;", 3, 44);
        fault(1, Check.times(40, "hour;") + "look 9 9;", 3, 200);
        fault(2, Check.times(8, "left 0;") + "left 10;", 3, 56);
        fault(3, Check.times(16, "still 0;") + "still 9;", 3, 128);
        Check.by("If there is none of these, at the end's place, of a COUNTRY");
        fault(0, "path 0 1;left 0;", 2, 14);
        fault(0, "path 0 1;" + Check.times(5, "left 1;"), 3, 37);
        String ring = "thing 1 0 0;thing 1 0 0;rests 0 1;rests 1 0;";
        String two = "left 1;right 1;couple 0 0;couple 0 0;";
        fault(0, two + ring + "path 0 2;", 4, two.length() + ring.length() + 9);
        fault(0, two + ring, 5, two.length() + ring.length());
        fault(0, ring + two, 5, two.length() + ring.length());
        fault(0, two + "thing 1 0 0;", 6, two.length() + 12);
    }

    /** The tape's last line is read as its first one. */
    private static void lastLines() {
        Check.by("THE TAPE has at most 600 bytes.");
        fault(1, Check.times(119, "hour;") + "hours", 1, 595);
        fault(1, Check.times(119, "hour;") + "hour;", 3, 200);
        fault(2, Check.times(99, "left0;") + "lefts;", 1, 594);
        fault(3, Check.times(85, "still0;") + "stil;", 1, 595);
        String blanks = Check.times(588, " ");
        good(0, blanks + "thing 1 1 1;");
        fault(0, blanks + "thing 1 1 1,", 1, 599);
        fault(0, Check.times(593, " ") + "rests 1", 1, 600);
        fault(0, Check.times(590, " ") + "rests 0 1;", 4, 600);
    }
}
