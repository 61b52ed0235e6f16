import java.io.IOException;
import java.nio.file.Files;
import java.nio.file.Path;
import java.util.ArrayList;
import java.util.LinkedHashMap;
import java.util.List;
import java.util.Map;
import java.util.regex.Matcher;
import java.util.regex.Pattern;

/** The document by its headings, with what the tests quote of it: which words on boundaries no test has. */
final class Document {
    private static final Path PLACE = Path.of("../shared/DOC.md");
    private static final Pattern BOUNDARY = Pattern.compile("\\d \\.\\. \\d|at least|at most|of like ones|without\\b"
            + "|\\bnone\\b|by 0 it is 0|\\babove\\b|\\bbelow\\b|the latest|of DAY 0|for others|\\bif there\\b|so many"
            + "|there are 4|ahead of any|no STEP|at first|or more|less than|up to|\\d to \\d+|the longest|the least|9th"
            + "|NONE:|the tape stays|empty then|would have more|as above|\\(NONE\\)");
    private final Map<String, String> words = new LinkedHashMap<>();
    private final Map<String, boolean[]> quoted = new LinkedHashMap<>();

    Document() throws IOException {
        String heading = "";
        StringBuilder part = new StringBuilder();
        for (String line : Files.exists(PLACE) ? Files.readAllLines(PLACE) : List.<String>of()) {
            if (line.startsWith("## ")) {
                keep(heading, part);
                heading = line.substring(3).replaceFirst(":.*", "");
            } else if (!line.startsWith("```")) {
                part.append(line).append(' ');
            }
        }
        keep(heading, part);
    }

    private void keep(String heading, StringBuilder part) {
        String plain = plain(part.toString());
        words.put(heading, plain);
        quoted.put(heading, new boolean[plain.length()]);
        part.setLength(0);
    }

    private static String plain(String some) {
        return some.replaceAll("\\s+", " ").strip();
    }

    /** Whether there is a document here at all: without one nothing can be looked up. */
    boolean isThere() {
        return words.size() > 1;
    }

    /** Whether these words stand under that heading. */
    boolean quote(String heading, String some) {
        String sought = plain(some);
        int at = words.getOrDefault(heading, "").indexOf(sought);
        for (int i = at; at >= 0 && i < at + sought.length(); i++) {
            quoted.get(heading)[i] = true;
        }
        return at >= 0;
    }

    /** The words on boundaries under headings of that kind that nobody has quoted. */
    List<String> unquoted(String kind) {
        List<String> left = new ArrayList<>();
        for (Map.Entry<String, String> part : words.entrySet()) {
            if (part.getKey().startsWith(kind)) {
                Matcher found = BOUNDARY.matcher(part.getValue());
                while (found.find()) {
                    if (!quoted.get(part.getKey())[found.start()]) {
                        int to = Math.min(part.getValue().length(), found.end() + 40);
                        left.add(part.getKey() + ": .. " + part.getValue().substring(found.start(), to) + " ..");
                    }
                }
            }
        }
        return left;
    }
}
