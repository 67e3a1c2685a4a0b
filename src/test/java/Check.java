/** What the tests share: telling texts, and counting answers that are not as due. */
final class Check {
    /** Three THINGS on one another and one apart, two COUPLES, the second of which sees GIANTS. */
    static final String LAND = "thing 20 3 2;thing 15 4 3;thing 9 5 1;thing 6 0 6;rests 1 0;rests 2 1;path 0 1;path 1 3;"
        + "left 5;left 2;right 4;right 9;couple 0 0;couple 1 1;hand 3;"
        + "likes 0 1 5;likes 1 1 4;liked 1 0 2;liked 1 1 7;liked 0 0 3;";

    private static int wrong = 0;
    private static int asked = 0;
    private static String sentence = "";

    private Check() {
    }

    /** What is asked from here on is due by this sentence of the document. */
    static void by(String words) {
        sentence = "'" + words + "' ";
    }

    static void due(String call, long got, long want) {
        asked++;
        if (got != want) {
            wrong++;
            System.out.println(sentence + call + " answered " + got + ", due is " + want);
        }
    }

    static void due(String call, boolean got, boolean want) {
        due(call, got ? 1 : 0, want ? 1 : 0);
    }

    static void finish() {
        System.out.println(asked + " answers, " + wrong + " not as due");
        if (wrong != 0 || asked == 0) {
            System.exit(1);
        }
    }

    /** Feeds a text behind what the tape has, twenty bytes at a time, and cuts what is too much. */
    static void tape(PairedViews x, String text) {
        int had = x.feed(0, 0, 0, 0, 0) - 20;
        x.end(had);
        for (int i = 0; i < text.length(); i += 20) {
            int[] words = new int[5];
            for (int k = 0; k < 20; k++) {
                int sign = i + k < text.length() ? text.charAt(i + k) & 255 : 32;
                words[k / 4] = words[k / 4] << 8 | sign;
            }
            x.feed(words[0], words[1], words[2], words[3], words[4]);
        }
        x.end(had + text.length());
    }

    static int tell(PairedViews x, int sort, int at, String text) {
        tape(x, text);
        return x.text(sort, at);
    }

    static PairedViews with(int sort, String text) {
        PairedViews x = new PairedViews();
        due("text " + text, tell(x, sort, PairedViews.NONE, text), 0);
        return x;
    }

    /** A COUNTRY and a YEAR. */
    static PairedViews with(String country, String year) {
        PairedViews x = with(0, country);
        due("text " + year, tell(x, 1, PairedViews.NONE, year), 0);
        return x;
    }

    static String times(int n, String text) {
        StringBuilder all = new StringBuilder();
        for (int i = 0; i < n; i++) {
            all.append(text);
        }
        return all.toString();
    }
}
