import java.io.IOException;
import java.nio.file.Files;
import java.nio.file.Path;
import java.util.ArrayList;
import java.util.List;
import java.util.regex.Matcher;
import java.util.regex.Pattern;
import java.util.stream.Stream;

/** The sentences of the document that the tests quote, and what of the document none of them quotes. */
final class Quotes {
    private static final Pattern TEST = Pattern.compile("Bench\\.test\\(\\s*((?:\"(?:\\\\.|[^\"\\\\])*\"\\s*\\+?\\s*)+),");
    private static final Pattern TEXT = Pattern.compile("\"((?:\\\\.|[^\"\\\\])*)\"");
    /** What only orders the document: headings, the calls' forms (the face is tested as a whole), numbers of parts, names ahead of a colon. */
    private static final String[] ORDER = {"## Promise [0-9]+: [A-Za-z ]*?(?=`|$)", "`(?:int|boolean) [a-z]+\\([a-z, ]*\\)`:",
        "```(?:text)?", "==== [1-4]\\.(?: A BEAT\\.)?", "#+ (?:HearsayOrchestra|What it is|The public face|Terms|Not promised)",
        "\\b[A-Z]+(?: [A-Z]+)*:", "\\([abc]\\)"};

    private Quotes() {
    }

    static List<String> of(Path folder) throws IOException {
        List<String> quotes = new ArrayList<>();
        try (Stream<Path> files = Files.list(folder)) {
            for (Path file : files.sorted().toList()) {
                Matcher test = TEST.matcher(Files.readString(file));
                while (test.find()) {
                    StringBuilder quote = new StringBuilder();
                    Matcher text = TEXT.matcher(test.group(1));
                    while (text.find()) {
                        quote.append(text.group(1).replace("\\\"", "\""));
                    }
                    quotes.add(Bench.plain(quote.toString()));
                }
            }
        }
        return quotes;
    }

    /** The pieces of the document that promise something and that no test quotes. */
    static List<String> missing(String whole, List<String> quotes, List<String> free) {
        String document = whole.replaceAll("```java.*?```", "");
        StringBuilder left = new StringBuilder(document);
        List<String> all = new ArrayList<>(quotes);
        all.addAll(free);
        for (String quote : all) {
            for (int at = document.indexOf(quote); at >= 0 && !quote.isEmpty(); at = document.indexOf(quote, at + 1)) {
                for (int i = at; i < at + quote.length(); i++) {
                    left.setCharAt(i, '\n');
                }
            }
        }
        List<String> missing = new ArrayList<>();
        for (String piece : left.toString().split("\n+")) {
            String rest = piece.trim();
            for (String order : ORDER) {
                rest = rest.replaceAll(order, "");
            }
            if (rest.matches("(?s).*[A-Za-z0-9].*")) {
                missing.add(rest.trim());
            }
        }
        return missing;
    }
}
