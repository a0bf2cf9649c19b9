import java.io.IOException;
import java.nio.charset.StandardCharsets;
import java.nio.file.Files;
import java.nio.file.Path;
import java.util.regex.Matcher;
import java.util.regex.Pattern;

/** README.md: every call and every member of the face stands there as in the document, and its example answers what it says. */
public final class ReadmeTest {
    private static final Pattern CALL = Pattern.compile("(?m)^  (\\d+ [a-zA-Z0-9]+\\([^)]*\\))");
    private static final Pattern MEMBER = Pattern.compile("(?m)^    public (?:static final )?([^;=]*?)(?: throws [^;]*| = [^;]*)?;");
    private static final Pattern ROW = Pattern.compile("(?m)^house\\.(act|bill)\\(([^)]*)\\); +// (-?\\d+): .*$|^for \\(char sign : \"(.*)\"\\.toCharArray\\(\\)\\) \\{$");

    public static void main(String[] args) throws IOException {
        Check c = new Check("ReadmeTest");
        String readme = Files.readString(Path.of("README.md"), StandardCharsets.UTF_8);
        Path document = Path.of("..", "shared", "DOC.md");
        if (Files.exists(document)) {
            stands(c, readme, Files.readString(document, StandardCharsets.UTF_8));
        } else {
            System.out.println("ReadmeTest: there is no " + document + ", so no calls are looked up");
        }
        example(c, readme);
        c.end();
    }

    private static void stands(Check c, String readme, String document) {
        int count = 0;
        for (Matcher m = CALL.matcher(document); m.find(); count++) {
            c.due("README.md tells " + m.group(1), readme.contains("| `" + m.group(1) + "` |") ? 1 : 0, 1);
        }
        c.due("calls", count, 163);
        count = 0;
        String face = document.substring(document.indexOf("```java"), document.indexOf("## Terms"));
        for (Matcher m = MEMBER.matcher(face); m.find(); count++) {
            String member = m.group(1).replaceAll("^(int|long) (BAD|NONE)$", "$2");
            c.due("README.md tells " + member, readme.contains("| `" + member + "` |") ? 1 : 0, 1);
        }
        c.due("members", count, 14);
    }

    private static void example(Check c, String readme) {
        String rows = readme.substring(readme.indexOf("```java"), readme.indexOf("An object is for"));
        RoadHouse house = new RoadHouse();
        int count = 0;
        for (Matcher m = ROW.matcher(rows); m.find(); count++) {
            if (m.group(4) != null) {
                c.collect(house, 700, m.group(4));
                continue;
            }
            int[] a = new int[6];
            String[] words = m.group(2).split(", ");
            for (int k = 0; k < words.length; k++) {
                a[k] = Integer.parseInt(words[k]);
            }
            long got = m.group(1).equals("act") ? house.act(a[0], a[1], a[2], a[3], a[4], a[5]) : house.bill(a[0]);
            c.due("README.md's example " + m.group(), got, Long.parseLong(m.group(3)));
        }
        c.due("rows of the example", count, 10);
    }
}
