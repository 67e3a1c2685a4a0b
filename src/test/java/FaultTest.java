/** Promises 4 and 5: which texts can be, which FAULT there is, and where. */
final class FaultTest {
    private static final int NONE = PairedViews.NONE;

    public static void main(String[] args) {
        tokens();
        grammar();
        numbersOfCountries();
        numbersOfOthers();
        tooMany();
        atTheEnd();
        order();
        Check.finish();
    }

    private static void good(int sort, String text) {
        PairedViews x = new PairedViews();
        Check.due("text " + sort + " " + text, Check.tell(x, sort, NONE, text), 0);
        Check.due("fault of " + text, x.fault(0), 0);
        Check.due("place of " + text, x.fault(1), NONE);
    }

    private static void bad(int sort, String text, int fault, int place) {
        PairedViews x = new PairedViews();
        Check.due("text " + sort + " " + text, Check.tell(x, sort, NONE, text), NONE);
        Check.due("fault of " + text, x.fault(0), fault);
        Check.due("place of " + text, x.fault(1), place);
        Check.due("count behind " + text, x.count(sort), 0);
        Check.due("tape behind " + text, x.end(1), NONE);
    }

    private static void tokens() {
        good(1, "");
        good(1, " \n \n");
        good(1, "hour;");
        good(1, "\n hour \n; hour;\n");
        good(1, "look0 1;");
        good(1, "look 00\n07;");
        good(1, "look 3 7;mirror7;hour;");
        bad(1, "Hour;", 1, 0);
        bad(1, "hoUr;", 1, 0);
        bad(1, " hour,", 1, 5);
        bad(1, "hour\t;", 1, 4);
        bad(1, "hour\r;", 1, 4);
        bad(1, "hour;\0", 1, 5);
        bad(1, "hour;" + (char) 200, 1, 5);
        bad(1, "look 001 1;", 1, 5);
        bad(1, "look 1 100;", 1, 7);
        bad(1, "look 1 " + Check.times(500, "9") + ";", 1, 7);
        bad(1, "hourhour;", 1, 0);
        bad(1, "hourz;", 1, 0);
        bad(1, "houra;", 1, 0);
        bad(1, "hour`;", 1, 4);
        bad(1, "hour{;", 1, 4);
        bad(1, "look 1/2;", 1, 6);
        bad(1, "look 1:2;", 1, 6);
        bad(1, "words N;", 1, 6);
        bad(1, "hour;hou", 1, 5);
        bad(1, "hour;hour", 1, 9);
        bad(1, "hour;look 1 ", 1, 12);
        bad(1, "hour;look\n\n", 1, 11);
        bad(1, "123", 1, 0);
        bad(1, ";", 1, 0);
        bad(1, "hour;;", 1, 5);
    }

    private static void grammar() {
        good(0, Check.LAND);
        good(0, "hand 0;");
        bad(0, "thing 1 2;", 1, 9);
        bad(0, "thing 1 2 3 4;", 1, 12);
        bad(0, "thing 1 2 3 hand 4;", 1, 12);
        bad(0, "rests 1;", 1, 7);
        bad(0, "path 1 2 3;", 1, 9);
        bad(0, "couple 1;", 1, 8);
        bad(0, "left;", 1, 4);
        bad(0, "right 1 2;", 1, 8);
        bad(0, "hand;", 1, 4);
        bad(0, "likes 1 2;", 1, 9);
        bad(0, "liked 1 2;", 1, 9);
        bad(0, "hour;", 1, 0);
        bad(0, "like 1 2 3;", 1, 0);
        bad(1, "look 1;", 1, 6);
        bad(1, "words;", 1, 5);
        bad(1, "words 1 2;", 1, 8);
        bad(1, "peace;", 1, 5);
        bad(1, "mirror 1 2;", 1, 9);
        bad(1, "hour 1;", 1, 5);
        bad(1, "looked 0 1;", 1, 0);
        bad(2, "straight;", 1, 8);
        bad(2, "left 1 2;", 1, 7);
        bad(2, "look 1 2;", 1, 0);
        bad(2, "straigh 1;", 1, 0);
        bad(3, "looked 1;", 1, 8);
        bad(3, "shimmers 1 2;", 1, 11);
        bad(3, "still;", 1, 5);
        bad(3, "look 1 2;", 1, 0);
        bad(3, "thing 1 2 3;", 1, 0);
    }

    private static void numbersOfCountries() {
        good(0, "thing 99 9 9;thing 0 0 0;");
        bad(0, "thing 0 10 0;", 2, 8);
        bad(0, "thing 0 9 10;", 2, 10);
        bad(0, "rests 8 0;", 2, 6);
        bad(0, "rests 0 8;", 2, 8);
        bad(0, "rests 1 1;", 2, 8);
        bad(0, "rests 1 01;", 2, 8);
        bad(0, "rests 8 8;", 2, 6);
        bad(0, "path 8 0;", 2, 5);
        bad(0, "path 0 8;", 2, 7);
        bad(0, "path 2 2;", 2, 7);
        good(0, "left 9;left 1;right 9;right 1;couple 1 1;couple 0 0;");
        bad(0, "left 0;", 2, 5);
        bad(0, "left 10;", 2, 5);
        bad(0, "right 0;", 2, 6);
        bad(0, "right 10;", 2, 6);
        bad(0, "couple 4 0;", 2, 7);
        bad(0, "couple 0 4;", 2, 9);
        good(0, "hand 9;hand 00;");
        bad(0, "hand 10;", 2, 5);
        bad(0, "likes 4 0 0;", 2, 6);
        bad(0, "likes 0 4 0;", 2, 8);
        bad(0, "likes 0 0 10;", 2, 10);
        bad(0, "liked 4 0 0;", 2, 6);
        bad(0, "liked 0 4 0;", 2, 8);
        bad(0, "liked 0 0 10;", 2, 10);
        good(0, "left 1;right 1;likes 0 0 9;liked 0 0 9;");
    }

    private static void numbersOfOthers() {
        good(1, "look 3 7;words 3;peace 3;mirror 7;");
        bad(1, "look 4 0;", 2, 5);
        bad(1, "look 0 8;", 2, 7);
        bad(1, "words 4;", 2, 6);
        bad(1, "peace 4;", 2, 6);
        bad(1, "mirror 8;", 2, 7);
        good(2, "straight 9;right 9;left 9;straight 0;right 0;left 0;");
        bad(2, "straight 10;", 2, 9);
        bad(2, "right 10;", 2, 6);
        bad(2, "left 10;", 2, 5);
        good(3, "looked 3 7;shimmers 7;still 7;");
        bad(3, "looked 4 0;", 2, 7);
        bad(3, "looked 0 8;", 2, 9);
        bad(3, "shimmers 8;", 2, 9);
        bad(3, "still 8;", 2, 6);
    }

    private static void tooMany() {
        good(0, Check.times(8, "thing 1 0 0;"));
        bad(0, Check.times(9, "thing 1 0 0;"), 3, 96);
        String two = "thing 1 0 0;thing 1 0 0;";
        good(0, two + Check.times(12, "path 0 1;"));
        bad(0, two + Check.times(13, "path 0 1;"), 3, 24 + 108);
        good(0, Check.times(4, "left 1;"));
        bad(0, Check.times(5, "left 1;"), 3, 28);
        good(0, Check.times(4, "right 1;"));
        bad(0, Check.times(5, "right 1;"), 3, 32);
        good(0, "left 1;left 1;left 1;left 1;right 1;right 1;right 1;right 1;couple 0 1;couple 1 0;couple 2 3;couple 3 2;");
        bad(0, Check.times(5, "couple 0 0;"), 3, 44);
        good(0, Check.times(50, "hand 1;"));
        good(0, two + Check.times(40, "rests 0 1;"));
        good(1, Check.times(40, "hour;"));
        bad(1, Check.times(41, "hour;"), 3, 200);
        bad(1, Check.times(120, "hour;"), 3, 200);
        bad(1, Check.times(20, "hour;mirror 0;") + "look 0 0;", 3, 280);
        good(2, Check.times(4, "left 0;right 9;"));
        bad(2, Check.times(4, "left 0;right 9;") + "straight 1;", 3, 60);
        good(3, Check.times(8, "still 0;looked 1 1;"));
        bad(3, Check.times(8, "still 0;looked 1 1;") + "shimmers 0;", 3, 8 * 19);
    }

    private static void atTheEnd() {
        bad(0, "thing 1 0 0;rests 0 1;", 4, 22);
        bad(0, "thing 1 0 0;rests 1 0; ", 4, 23);
        bad(0, "rests 0 1;", 4, 10);
        bad(0, "liked 0 0 0;", 4, 12);
        bad(0, "thing 1 0 0;path 0 1;", 4, 21);
        bad(0, "thing 1 0 0;path 1 0;", 4, 21);
        bad(0, "left 1;couple 0 0;", 4, 18);
        bad(0, "right 1;couple 0 0;", 4, 19);
        bad(0, "left 1;likes 0 0 1;", 4, 19);
        bad(0, "right 1;likes 0 0 1;", 4, 20);
        bad(0, "left 1;left 1;right 1;likes 0 1 9;", 4, 34);
        bad(0, "left 1;left 1;right 1;liked 1 0 9;", 4, 34);
        good(0, "left 1;left 1;right 1;likes 1 0 9;liked 0 1 9;");
        // A line that a later one strikes has told all the same.
        bad(0, "thing 1 0 0;thing 1 0 0;rests 0 5;rests 0 1;", 4, 44);
        good(0, "rests 0 1;path 1 0;couple 0 0;likes 0 0 1;thing 1 0 0;thing 1 0 0;left 1;right 1;");
        bad(0, "thing 1 0 0;thing 1 0 0;rests 0 1;rests 1 0;", 5, 44);
        String three = Check.times(3, "thing 1 0 0;");
        bad(0, three + "rests 0 1;rests 1 2;rests 2 0;", 5, 66);
        bad(0, three + "rests 0 1;rests 1 2;rests 2 1;", 5, 66);
        good(0, three + "rests 0 1;rests 1 2;");
        good(0, three + "rests 0 1;rests 1 0;rests 1 2;");
        String eight = Check.times(8, "thing 1 0 0;");
        String chain = "rests 0 1;rests 1 2;rests 2 3;rests 3 4;rests 4 5;rests 5 6;rests 6 7;";
        good(0, eight + chain);
        bad(0, eight + chain + "rests 7 0;", 5, 96 + 80);
        String eyes = "left 1;left 1;right 1;right 1;";
        bad(0, eyes + "couple 0 0;couple 0 1;", 6, 52);
        bad(0, eyes + "couple 0 0;couple 1 0;", 6, 52);
        bad(0, eyes + "couple 1 1;couple 1 1;", 6, 52);
        good(0, eyes + "couple 0 1;couple 1 0;");
    }

    private static void order() {
        // FAULT 1 goes ahead of all others, wherever it is.
        bad(0, "left 0;left 1;left", 1, 18);
        bad(0, Check.times(9, "thing 1 0 0;") + "!", 1, 108);
        // Of 2 and 3 the first by place.
        bad(0, "left 0;" + Check.times(5, "right 1;"), 2, 5);
        bad(0, Check.times(5, "right 1;") + "left 0;", 3, 32);
        bad(0, Check.times(8, "thing 1 0 0;") + "thing 1 10 0;", 3, 96);
        bad(2, Check.times(7, "left 0;") + "left 10;left 0;", 2, 54);
        bad(0, "thing 1 99 99;", 2, 8);
        // 2 and 3 go ahead of 4 to 6; of these the least.
        bad(0, "rests 0 1;hand 10;", 2, 15);
        bad(0, "rests 0 1;rests 1 0;", 4, 20);
        bad(0, "thing 1 0 0;thing 1 0 0;rests 0 1;rests 1 0;left 1;right 1;couple 0 0;couple 0 0;", 5, 81);
        bad(0, "left 1;right 1;couple 0 0;couple 0 0;path 0 1;", 4, 46);
    }
}
