import java.io.IOException;
import java.nio.file.DirectoryStream;
import java.nio.file.Files;
import java.nio.file.Path;
import java.util.BitSet;
import java.util.regex.Matcher;
import java.util.regex.Pattern;

/**
 * By hand, not by .ci/run: java src/test/java/Quotes.java prints the sentences that the tests quote (Check.by) and the
 * document has not, then what of the document no test quotes.
 */
final class Quotes {
    private static final Pattern BY = Pattern.compile("Check\\.by\\(((?:\\s*\\+?\\s*\"(?:[^\"\\\\]|\\\\.)*\")+)\\)");
    private static final Pattern PIECE = Pattern.compile("\"((?:[^\"\\\\]|\\\\.)*)\"");

    public static void main(String[] args) throws IOException {
        String document = Files.readString(Path.of("../shared/DOC.md")).replaceAll("\\s+", " ");
        BitSet quoted = new BitSet();
        try (DirectoryStream<Path> tests = Files.newDirectoryStream(Path.of("src/test/java"), "*Test.java")) {
            for (Path test : tests) {
                Matcher by = BY.matcher(Files.readString(test));
                while (by.find()) {
                    mark(document, join(by.group(1)), quoted);
                }
            }
        }
        int at = quoted.nextClearBit(document.indexOf("## Terms"));
        while (at < document.length()) {
            int end = quoted.nextSetBit(at);
            String rest = document.substring(at, end < 0 ? document.length() : end);
            if (rest.length() > 3) {
                System.out.println("not quoted: " + rest);
            }
            at = quoted.nextClearBit(at + rest.length());
        }
    }

    private static String join(String pieces) {
        StringBuilder all = new StringBuilder();
        Matcher piece = PIECE.matcher(pieces);
        while (piece.find()) {
            all.append(piece.group(1));
        }
        return all.toString();
    }

    private static void mark(String document, String words, BitSet quoted) {
        int at = document.indexOf(words);
        if (at < 0) {
            System.out.println("not in the document: " + words);
        }
        for (; at >= 0; at = document.indexOf(words, at + 1)) {
            quoted.set(at, at + words.length());
        }
    }
}
