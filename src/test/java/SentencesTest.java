import java.io.IOException;
import java.lang.reflect.Method;
import java.nio.charset.StandardCharsets;
import java.nio.file.Files;
import java.nio.file.Path;
import java.util.ArrayList;
import java.util.List;
import java.util.Map;
import java.util.TreeMap;
import java.util.regex.Matcher;
import java.util.regex.Pattern;

/**
 * The words that tests quote stand in the document, at the call or promise that they name; and each sentence of a call or a
 * promise that names an edge, and each one of the terms that does, is quoted by a test.
 */
public final class SentencesTest {
    private static final Class<?>[] TESTS = {DeskSentencesTest.class, WaySentencesTest.class, EarthSentencesTest.class, BeamsSentencesTest.class,
        TrainsSentencesTest.class, StressSentencesTest.class, SignalsSentencesTest.class, CarsSentencesTest.class, ContractSentencesTest.class};
    private static final Pattern CALL = Pattern.compile("^  (\\d+) [a-zA-Z0-9]+\\(.*");
    private static final Pattern QUOTED_CALL = Pattern.compile("^(P?\\d+): (.*)$");
    private static final Pattern EDGE = Pattern.compile("BAD|NONE|False|throws|SPENT|Illegal|- 1|- 3|at most|\\.\\.|at first|cut off|gone|stays|not promised|is no |none");

    public static void main(String[] args) throws IOException {
        Check c = new Check("SentencesTest");
        Path document = Path.of("..", "shared", "DOC.md");
        if (!Files.exists(document)) {
            System.out.println("SentencesTest: there is no " + document + ", so nothing is looked up");
            return;
        }
        String all = Files.readString(document, StandardCharsets.UTF_8);
        Map<String, String> places = places(all);
        Map<String, List<String>> quoted = new TreeMap<>();
        for (Class<?> tests : TESTS) {
            for (Method m : tests.getDeclaredMethods()) {
                Says says = m.getAnnotation(Says.class);
                for (String words : says == null ? new String[0] : says.value()) {
                    Matcher at = QUOTED_CALL.matcher(words);
                    boolean named = at.matches() && places.containsKey(at.group(1));
                    String where = named ? at.group(1) : "";
                    String what = named ? at.group(2) : words;
                    quoted.computeIfAbsent(where, k -> new ArrayList<>()).add(what);
                    c.due(tests.getName() + "." + m.getName() + " quotes \"" + words + "\"; found", (named ? places.get(where) : all).contains(what) ? 1 : 0, 1);
                }
            }
        }
        for (Map.Entry<String, String> place : places.entrySet()) {
            for (String sentence : sentences(place.getValue())) {
                if (EDGE.matcher(sentence).find()) {
                    c.due("tests of " + place.getKey() + ": \"" + sentence + "\"", isQuoted(sentence, quoted.get(place.getKey())) ? 1 : 0, 1);
                }
            }
        }
        for (String sentence : sentences(terms(all))) {
            if (EDGE.matcher(sentence).find()) {
                c.due("tests of the terms: \"" + sentence + "\"", isQuoted(sentence, quoted.get("")) ? 1 : 0, 1);
            }
        }
        c.end();
    }

    /** All terms but the calls, in one row. */
    private static String terms(String all) {
        StringBuilder found = new StringBuilder();
        boolean terms = false;
        boolean summary = false;
        for (String line : all.split("\n")) {
            terms = line.startsWith("## ") ? line.startsWith("## Terms") : terms;
            boolean head = line.startsWith("====");
            if (terms && !summary && !head && !CALL.matcher(line).matches() && !line.startsWith("```") && !line.startsWith("#")) {
                found.append(line.trim()).append(' ');
            }
            // the first words of a part tell what it is for
            summary = head || summary && line.isEmpty();
        }
        return found.toString();
    }

    /** The text of each call, by its number, and of each promise, by P and its number. */
    private static Map<String, String> places(String all) {
        Map<String, String> places = new TreeMap<>();
        String promise = "";
        for (String line : all.split("\n")) {
            Matcher call = CALL.matcher(line);
            if (call.matches()) {
                int begin = line.indexOf(')') + 1;
                places.put(call.group(1), line.substring(begin).trim());
            } else if (line.startsWith("## ")) {
                promise = line.startsWith("## Promise ") ? "P" + line.substring(11, line.indexOf(':')) : "";
            } else if (!promise.isEmpty() && line.startsWith("`")) {
                places.put(promise, line.substring(line.indexOf("`: ") + 3).trim());
            }
        }
        return places;
    }

    private static List<String> sentences(String text) {
        List<String> found = new ArrayList<>();
        for (String s : text.replace(" .. ", "\u2025").split("(?<=\\.|\\.\\))\\s+")) {
            found.add(s.replace("\u2025", " .. "));
        }
        return found;
    }

    private static boolean isQuoted(String sentence, List<String> quotes) {
        for (String quote : quotes == null ? List.<String>of() : quotes) {
            if (sentence.contains(quote) || quote.contains(sentence)) {
                return true;
            }
        }
        return false;
    }
}
