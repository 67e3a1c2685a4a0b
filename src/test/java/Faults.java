import java.util.ArrayList;
import java.util.HashMap;
import java.util.List;
import java.util.Map;
import java.util.TreeSet;
import java.util.regex.Matcher;
import java.util.regex.Pattern;

/** The FAULT of a text and its place, by another reading than the class's: patterns over the whole text. */
final class Faults {
    private static final String[] SHAPES = {
        "thing N N N;|rests N N;|path N N;|couple N N;|left N;|right N;|hand N;|likes N N N;|liked N N N;",
        "look N N;|words N;|peace N;|mirror N;|hour;",
        "straight N;|right N;|left N;",
        "looked N N;|shimmers N;|still N;"};

    private Faults() {
    }

    static int[] of(int sort, String text) {
        List<String> tokens = new ArrayList<>();
        List<Integer> places = new ArrayList<>();
        Matcher matcher = Pattern.compile("[a-z]+|[0-9]+|[^ \n]").matcher(text);
        while (matcher.find()) {
            tokens.add(matcher.group());
            places.add(matcher.start());
        }
        places.add(text.length());
        int good = goodTokens(sort, tokens);
        if (good >= 0) {
            return new int[] {1, places.get(good)};
        }
        int[] found = numbers(sort, tokens, places);
        if (found == null && sort == 0) {
            found = atTheEnd(tokens, text.length());
        }
        return found == null ? new int[] {0, -1} : found;
    }

    /** The first token with which no text goes on; -1 if there is none. */
    private static int goodTokens(int sort, List<String> tokens) {
        String line = "";
        for (int i = 0; i < tokens.size(); i++) {
            String token = tokens.get(i).matches("[0-9]{1,2}") ? " N" : tokens.get(i);
            line += token;
            boolean starts = false;
            boolean whole = false;
            for (String shape : SHAPES[sort].split("\\|")) {
                // A word must be there as a whole: the shape goes on with what is no letter.
                starts |= shape.startsWith(line) && !shape.substring(line.length()).matches("[a-z].*");
                whole |= shape.equals(line);
            }
            if (!starts || tokens.get(i).equals("N")) {
                return i;
            }
            line = whole ? "" : line;
        }
        return line.isEmpty() ? -1 : tokens.size();
    }

    private static int[] numbers(int sort, List<String> tokens, List<Integer> places) {
        Map<String, Integer> told = new HashMap<>();
        String word = "";
        int at = 0;
        int first = -1;
        for (int i = 0; i < tokens.size(); i++) {
            String token = tokens.get(i);
            if (token.matches("[a-z]+")) {
                word = token;
                at = 0;
                String group = sort == 0 ? word : "line";
                if (told.merge(group, 1, Integer::sum) > most(sort, word)) {
                    return new int[] {3, places.get(i)};
                }
            } else if (!token.equals(";")) {
                int number = Integer.parseInt(token);
                boolean itself = at == 1 && number == first && word.matches("rests|path");
                if (number > top(sort, word, at) || number == 0 && sort == 0 && word.matches("left|right") || itself) {
                    return new int[] {2, places.get(i)};
                }
                first = number;
                at++;
            }
        }
        return null;
    }

    private static int most(int sort, String word) {
        if (sort > 0) {
            return sort == 1 ? 40 : sort == 2 ? 8 : 16;
        }
        return switch (word) {
            case "thing" -> 8;
            case "path" -> 12;
            case "left", "right", "couple" -> 4;
            default -> 1000;
        };
    }

    private static int top(int sort, String word, int at) {
        if (sort == 2) {
            return 9;
        }
        return switch (word) {
            case "thing" -> at == 0 ? 99 : 9;
            case "rests", "path", "mirror", "shimmers", "still" -> 7;
            case "couple", "words", "peace" -> 3;
            case "likes", "liked" -> at == 2 ? 9 : 3;
            case "look", "looked" -> at == 0 ? 3 : 7;
            default -> 9;
        };
    }

    private static int[] atTheEnd(List<String> tokens, int end) {
        String text = String.join(" ", tokens);
        int things = text.split("thing", -1).length - 1;
        int lefts = text.split("left", -1).length - 1;
        int rights = text.split("right", -1).length - 1;
        Map<Integer, Integer> rests = new HashMap<>();
        TreeSet<String> eyes = new TreeSet<>();
        boolean nobody = false;
        boolean twice = false;
        for (String line : text.split(";")) {
            String[] words = line.trim().split(" ");
            int a = words.length > 1 ? Integer.parseInt(words[1]) : 0;
            int b = words.length > 2 ? Integer.parseInt(words[2]) : 0;
            switch (words[0]) {
                case "rests" -> rests.put(a, b);
                case "couple" -> twice |= !eyes.add("left" + a) | !eyes.add("right" + b);
                default -> { }
            }
            nobody |= words[0].matches("rests|path") && Math.max(a, b) >= things;
            nobody |= words[0].matches("couple|likes") && (a >= lefts || b >= rights);
            nobody |= words[0].equals("liked") && (a >= rights || b >= lefts);
        }
        int fault = nobody ? 4 : ring(rests) ? 5 : twice ? 6 : 0;
        return fault == 0 ? null : new int[] {fault, end};
    }

    private static boolean ring(Map<Integer, Integer> rests) {
        for (int start : rests.keySet()) {
            Integer down = rests.get(start);
            for (int i = 0; i < 20 && down != null; i++) {
                if (down == start) {
                    return true;
                }
                down = rests.get(down);
            }
        }
        return false;
    }
}
