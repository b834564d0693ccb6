import java.io.IOException;
import java.lang.reflect.Method;
import java.lang.reflect.Modifier;
import java.nio.file.Files;
import java.nio.file.Path;
import java.util.ArrayList;
import java.util.List;
import java.util.Set;
import java.util.TreeSet;
import java.util.regex.Matcher;
import java.util.regex.Pattern;

/** What README.md says holds: its examples are these lines, with these answers, and its tables tell every call. */
public final class ReadmeTest {
    public static void main(String[] args) throws IOException {
        examplesAnswerAsTold();
        List<String> readme = Files.readAllLines(Path.of("README.md"));
        List<String> here = codeOf(Files.readAllLines(Path.of("src/test/java/ReadmeTest.java")));
        List<String> told = codeOf(examples(readme));
        Check.is("lines of the examples", told.size() > 20, true);
        Check.is("the examples of README.md stand here", String.join("\n", here).contains(String.join("\n", told)), true);
        Check.is("calls in the table", namesInTable(readme), openMethods());
        testsAreTold(readme);
        Check.end();
    }

    private static void examplesAnswerAsTold() {
        // The lines up to the end are README.md's, in its order.
        PassLink link = new PassLink();
        link.setOrbit(90, 24, 0);
        int station = link.addStation(0, 30, 12, 5, 4, 10);
        int record = link.addRecord(12, 3);
        int begin = link.nextContact(1);
        int due = link.deliveryForecast(record);
        link.advance(20);
        int there = link.frames(record, 3);
        int when = link.deliveredAt(record);
        String setup = "orbit 90 24 0; station 0 30 12 5 4 10; record 12 3;";
        for (int at = 0; at < setup.length(); at += 4) {
            int four = 0;
            for (int k = at; k < at + 4; k++) {
                four = four << 8 | (k < setup.length() ? setup.charAt(k) : ' ');
            }
            link.appendText(four);
        }
        link.truncateText(setup.length());
        int statements = link.load();
        int code = link.errorCode();
        int position = link.errorPosition();
        link.save(0);
        link.advance(100);
        link.restore(0);
        // The end of README.md's lines.
        Check.is("station", station, 0);
        Check.is("record", record, 0);
        Check.is("begin", begin, 5);
        Check.is("due", due, 7);
        Check.is("there", Integer.bitCount(there) <= 12 && there != 0, true);
        Check.is("when", when == PassLink.NONE, Integer.bitCount(there) < 12);
        Check.is("statements", statements, 3);
        Check.is("code", code, 0);
        Check.is("position", position, PassLink.NONE);
        Check.is("back before the 100 minutes", link.time(), 0);
        Check.is("the setup is loaded", link.stationCount() + link.recordCount(), 2);
        link.restore(0);
    }

    private static List<String> examples(List<String> readme) {
        List<String> lines = new ArrayList<>();
        boolean inside = false;
        for (String line : readme) {
            if (line.startsWith("```")) {
                inside = line.equals("```java");
            } else if (inside) {
                lines.add(line);
            }
        }
        return lines;
    }

    /** The lines without remarks and without the spaces around them. */
    private static List<String> codeOf(List<String> lines) {
        List<String> code = new ArrayList<>();
        for (String line : lines) {
            String bare = line.replaceAll("//.*", "").strip();
            if (!bare.isEmpty()) {
                code.add(bare);
            }
        }
        return code;
    }

    private static Set<String> namesInTable(List<String> readme) {
        Set<String> names = new TreeSet<>();
        for (String line : readme) {
            Matcher name = Pattern.compile("`(\\w+)`").matcher(line.startsWith("| ") ? line : "");
            while (name.find()) {
                Check.is(name.group(1) + " stands once in the table", names.add(name.group(1)), true);
            }
        }
        return names;
    }

    private static Set<String> openMethods() {
        Set<String> names = new TreeSet<>();
        for (Method method : PassLink.class.getDeclaredMethods()) {
            if (Modifier.isPublic(method.getModifiers())) {
                names.add(method.getName());
            }
        }
        return names;
    }

    private static void testsAreTold(List<String> readme) {
        Matcher name = Pattern.compile("\\b(\\w+Test)\\b").matcher(String.join("\n", readme));
        while (name.find()) {
            Path file = Path.of("src/test/java/" + name.group(1) + ".java");
            Check.is(file + " is there", Files.exists(file), true);
        }
    }
}
