import java.io.File;
import java.nio.file.Files;
import java.nio.file.Path;
import java.util.ArrayList;
import java.util.Arrays;
import java.util.List;
import java.util.regex.Matcher;
import java.util.regex.Pattern;

/**
 * What the Edge tests quote stands in the document, word by word, and each sentence of its description and of its
 * promises is quoted by one of them.
 */
public final class SentenceTests {
    private static final Due due = new Due("SentenceTests");
    private static final Pattern QUOTE = Pattern.compile("due\\.sentence\\((\"(?:[^\"\\\\]|\\\\.)*\"(?:\\s*\\+\\s*\"(?:[^\"\\\\]|\\\\.)*\")*)\\)");
    /** What tells how the document is to be read, and nothing that a call could break. */
    private static final List<String> READING = List.of(
            "The constructor and the methods follow, a promise each: the signature, then what it does.", "Tells BARRIERS.", "Knocks.",
            "STEPS.", "Computes a checksum.");

    public static void main(String[] args) throws Exception {
        String document = Files.readString(Path.of(args[0]));
        List<String> quotes = quotes(new File(args[1]));
        quotesStandThere(oneLine(document), quotes);
        sentencesAreQuoted(document, quotes);
        due.end();
    }

    private static String oneLine(String text) {
        return text.replaceAll("\\s+", " ").trim();
    }

    private static List<String> quotes(File directory) throws Exception {
        File[] files = directory.listFiles((in, name) -> name.startsWith("Edge") && name.endsWith(".java"));
        Arrays.sort(files);
        List<String> quotes = new ArrayList<>();
        for (File file : files) {
            String source = Files.readString(file.toPath());
            Matcher m = QUOTE.matcher(source);
            int many = 0;
            while (m.find()) {
                String words = m.group(1).replaceAll("\"\\s*\\+\\s*\"", "");
                quotes.add(oneLine(words.substring(1, words.length() - 1).replace("\\\"", "\"")));
                many++;
            }
            due.is(41, "each quote of " + file.getName() + " is seen", many, source.split("due\\.sentence\\(", -1).length - 1);
        }
        return quotes;
    }

    private static void quotesStandThere(String document, List<String> quotes) {
        for (String quote : quotes) {
            due.is(41, "'" + quote + "' stands in the document", document.contains(quote), true);
        }
    }

    /** Without headings, signatures and what tells an argument's name. */
    private static void sentencesAreQuoted(String document, List<String> quotes) {
        int begin = document.indexOf("## Description");
        int end = document.indexOf("## Not promised");
        StringBuilder text = new StringBuilder();
        for (String line : document.substring(begin, end).split("\n")) {
            if (line.isBlank() || line.startsWith("Throws ") || line.startsWith("Returns ")) {
                text.append('\n');
            }
            if (!line.matches("#.*|==.*|----.*|`.*|- `.*")) {
                text.append(line).append(' ');
            }
        }
        int many = 0;
        for (String part : text.toString().split("\n|(?<=\\.) +(?=[A-Z(0-9])")) {
            String sentence = oneLine(part);
            if (!sentence.isEmpty() && !READING.contains(sentence)) {
                due.is(41, "'" + sentence + "' is quoted by a test", isQuoted(sentence, quotes), true);
                many++;
            }
        }
        due.is(41, "there are many sentences", many > 150, true);
    }

    private static boolean isQuoted(String sentence, List<String> quotes) {
        for (String quote : quotes) {
            if (sentence.contains(quote) || quote.contains(sentence)) {
                return true;
            }
        }
        return false;
    }
}
