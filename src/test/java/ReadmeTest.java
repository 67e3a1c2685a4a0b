import java.io.File;
import java.io.IOException;
import java.lang.reflect.Method;
import java.lang.reflect.Modifier;
import java.nio.file.Files;
import java.nio.file.Path;
import java.util.ArrayList;
import java.util.HashSet;
import java.util.List;
import java.util.Set;

/** README.md: its example stands below word by word and answers as it says; it names every call and every test. */
final class ReadmeTest {
    private static final Path README = Path.of("README.md");
    private static final Path HERE = Path.of("src/test/java/ReadmeTest.java");
    /** Lines of the example, but for signs alone; a page without its example must not pass. */
    private static final int FEWEST_LINES = 20;

    public static void main(String[] args) throws IOException {
        example();
        exampleIsThePages();
        namesEveryCall();
        namesEveryTest();
        Check.finish();
    }

    static int say(PairedViews views, int sort, String text) {
        for (int i = 0; i < text.length(); i += 20) {
            int[] words = new int[5];
            for (int k = 0; k < 20; k++) {
                words[k / 4] = words[k / 4] << 8 | (i + k < text.length() ? text.charAt(i + k) : ' ');
            }
            views.feed(words[0], words[1], words[2], words[3], words[4]);
        }
        views.end(text.length());                  // the last blanks go: FAULTS at the end have the text's own end
        return views.text(sort, PairedViews.NONE); // a further one; at a number instead of NONE: in its place
    }

    private static void example() {
        PairedViews views = new PairedViews();
        int land = say(views, 0, "thing 9 1 2;thing 4 3 1;rests 1 0;path 0 1;left 5;right 4;couple 0 0;"); // 0
        int hours = views.lasts(land, 0);             // 4: 9, 7, 5, 3, then 1, and it BEARS 3
        int year = say(views, 1, "look 0 1;hour;hour;mirror 0;look 0 7;"); // 0
        int till = views.till(land, year);            // 4: there is no THING 7 to look at
        int solid = views.state(land, year, till, 10); // 10: two hours leave 5 of 9, the mirror makes it twice
        int sights = say(views, 2, "straight 4;right 1;"); // 0
        int cell = views.fits(sights, 0, 1);          // 24: ROW 2, COLUMN 4, the one CELL on both views
        int quarrels = say(views, 3, "looked 0 1;looked 1 1;looked 2 3;shimmers 1;still 3;"); // 0
        int sets = views.words(quarrels, 0);          // 6 sets of COUPLES may have had WORDS
        int none = say(views, 0, "thing 9 10 2;");    // NONE: a FAULT
        int fault = views.fault(0);                   // 2: a NUMBER that can't be
        int place = views.fault(1);                   // 8: where it begins
        Check.due("land", land, 0);
        Check.due("hours", hours, 4);
        Check.due("year", year, 0);
        Check.due("till", till, 4);
        Check.due("solid", solid, 10);
        Check.due("sights", sights, 0);
        Check.due("cell", cell, 24);
        Check.due("quarrels", quarrels, 0);
        Check.due("sets", sets, 6);
        Check.due("none", none, PairedViews.NONE);
        Check.due("fault", fault, 2);
        Check.due("place", place, 8);
        Check.due("a fault at the end, without blanks", say(views, 0, "rests 0 1;"), PairedViews.NONE);
        Check.due("its place", views.fault(1), 10);
    }

    /** Every line of the page's Java is a line of this file, so that what is shown is what was run. */
    private static void exampleIsThePages() throws IOException {
        Set<String> run = new HashSet<>();
        for (String line : Files.readAllLines(HERE)) {
            run.add(line.strip());
        }
        List<String> shown = new ArrayList<>();
        boolean java = false;
        for (String line : Files.readAllLines(README)) {
            if (line.startsWith("```")) {
                java = line.equals("```java");
            } else if (java) {
                shown.add(line.strip());
            }
        }
        for (String line : shown) {
            Check.due("run as shown: " + line, run.contains(line), true);
        }
        Check.due("the page has its example", shown.size() >= FEWEST_LINES, true);
    }

    private static void namesEveryCall() throws IOException {
        String page = Files.readString(README);
        for (Method method : PairedViews.class.getDeclaredMethods()) {
            if (Modifier.isPublic(method.getModifiers())) {
                Check.due("README names " + method.getName(), page.contains("`" + method.getName() + "`"), true);
            }
        }
    }

    private static void namesEveryTest() throws IOException {
        String page = Files.readString(README);
        for (File file : new File("src/test/java").listFiles()) {
            String name = file.getName().replace(".java", "");
            if (name.endsWith("Test")) {
                Check.due("README names " + name, page.contains("| " + name + " |"), true);
            }
        }
    }
}
