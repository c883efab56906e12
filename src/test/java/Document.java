import java.io.IOException;
import java.nio.charset.StandardCharsets;
import java.nio.file.Files;
import java.nio.file.Paths;
import java.util.ArrayList;
import java.util.Arrays;
import java.util.List;
import java.util.regex.Matcher;
import java.util.regex.Pattern;

/** What tests read out of the document itself, so that no list of theirs stands between it and the class. */
final class Document {
    private static final String KEYS_BEGIN = "These are words of their own, no names: ";

    private final String text;

    Document() throws IOException {
        text = new String(Files.readAllBytes(Paths.get("../shared/DOC.md")), StandardCharsets.UTF_8);
    }

    private String block(String holding) {
        Matcher fenced = Pattern.compile("```\\w+\n(.*?)```", Pattern.DOTALL).matcher(text);
        while (fenced.find()) {
            if (fenced.group(1).contains(holding)) {
                return fenced.group(1);
            }
        }
        throw new IllegalStateException("the document has no block with " + holding);
    }

    /** The methods of the face: "int end(int) throws IllegalArgumentException". */
    List<String> methods() {
        List<String> all = new ArrayList<>();
        Matcher line = Pattern.compile("public (\\w+) (\\w+)\\((.*?)\\)(.*?);").matcher(block("class GameText"));
        while (line.find()) {
            String types = line.group(3).replaceAll(" \\w+(?=,|$)", "").replace(" ", "");
            all.add(line.group(1) + " " + line.group(2) + "(" + types + ")" + line.group(4));
        }
        return all;
    }

    List<String> signs() {
        return Arrays.asList(block(".. ->").trim().split("\\s+"));
    }

    List<String> keys() {
        int from = text.indexOf(KEYS_BEGIN) + KEYS_BEGIN.length();
        return Arrays.asList(text.substring(from, text.indexOf('.', from)).split(" "));
    }

    String grammar() {
        return block("text = item*");
    }
}
