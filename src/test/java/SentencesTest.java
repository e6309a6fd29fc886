import java.nio.file.Files;
import java.nio.file.Path;
import java.util.ArrayList;
import java.util.List;
import java.util.regex.Matcher;
import java.util.regex.Pattern;
import java.util.stream.Collectors;
import java.util.stream.Stream;

/**
 * Every sentence of the document, from its first line to the last promise, stands in a test, by Check.says(..):
 * one that has none, because it is new or because a test was taken out, is printed.
 */
public final class SentencesTest {
    private static final Pattern SAYS = Pattern.compile("Check\\.says\\(((?:\\s*\\+?\\s*\"(?:[^\"\\\\]|\\\\.)*\")+)\\)");
    private static final Pattern TEXT = Pattern.compile("\"((?:[^\"\\\\]|\\\\.)*)\"");

    public static void main(String[] args) throws Exception {
        List<String> quotes = quotes();
        Check.holds("many tests", quotes.size() > 200);
        if (Check.document().isEmpty()) {
            System.out.println("the document is not there: its sentences are not looked for");
            Check.end("SentencesTest");
            return;
        }
        Check.holds("many sentences", sentences().size() > 300);
        for (String sentence : sentences()) {
            boolean said = false;
            for (String quote : quotes) {
                said |= quote.contains(sentence) || sentence.contains(quote);
            }
            Check.holds("a test for: " + sentence, said);
        }
        Check.end("SentencesTest");
    }

    private static List<String> quotes() throws Exception {
        List<Path> files;
        try (Stream<Path> all = Files.list(Path.of("src/test/java"))) {
            files = all.filter(f -> f.toString().endsWith("Test.java")).collect(Collectors.toList());
        }
        List<String> quotes = new ArrayList<>();
        for (Path file : files) {
            Matcher says = SAYS.matcher(Files.readString(file));
            while (says.find()) {
                StringBuilder quote = new StringBuilder();
                Matcher text = TEXT.matcher(says.group(1));
                while (text.find()) {
                    quote.append(text.group(1).replace("\\\"", "\"").replace("\\\\", "\\"));
                }
                quotes.add(Check.plain(quote.toString()).trim());
            }
        }
        return quotes;
    }

    /** What stands between points (but not between two of them) and semicolons. */
    private static List<String> sentences() {
        String text = Check.document();
        text = text.substring(text.indexOf("## What it is") + 13, text.indexOf("## Not promised"));
        // the face is looked at by HouseTest and LanguageTest
        text = text.replaceAll("## The public face ```java.*?``` ## Terms", "")
                .replace("```text", "").replace("```", "").replaceAll("## Promise \\d+: [\\w ]+ `[^`]*`: ", "")
                .replaceAll("KIND \\d+, [A-Z]+: ", "");
        List<String> all = new ArrayList<>();
        for (String piece : text.split("(?<=[^.\\s])\\.\\)?\\s+|;\\s+")) {
            String sentence = piece.trim();
            // a title, or a number alone, says nothing by itself
            if (sentence.length() > 3 && !sentence.matches("[A-Z0-9 ,.]*|KIND \\d+, [A-Z]+")) {
                all.add(sentence);
            }
        }
        return all;
    }
}
