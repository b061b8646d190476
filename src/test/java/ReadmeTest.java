import java.io.IOException;
import java.nio.file.Files;
import java.nio.file.Path;
import java.util.ArrayList;
import java.util.List;

/** README.md's example: what stands behind each of its calls is what the call answers. */
public final class ReadmeTest {
    private static final Check check = new Check();
    /** The example's lines that tell an answer, in their order. */
    private static List<String> told;
    private static int next;

    public static void main(String[] args) throws IOException {
        told = linesWithAnswers(Files.readAllLines(Path.of("README.md")));
        example();
        check.due("lines of the example", told.size(), next);
        check.end();
    }

    private static List<String> linesWithAnswers(List<String> readme) {
        List<String> lines = new ArrayList<>();
        int from = readme.indexOf("```java") + 1;
        for (int i = from; i < readme.size() && !readme.get(i).equals("```"); i++) {
            if (readme.get(i).contains("//")) {
                lines.add(readme.get(i));
            }
        }
        return lines;
    }

    /** The next line of the example makes this call and tells this answer. */
    private static int says(String call, int got) {
        String line = next < told.size() ? told.get(next) : "";
        next++;
        check.isTrue(call + " stands in: " + line, line.contains("s." + call + ";"));
        check.isTrue(call + " answers " + got + ": " + line, line.contains("// " + got + ": "));
        return got;
    }

    private static void example() {
        StackMarks s = new StackMarks();
        int note = says("note(10, 0, 8, 0, 1)", s.note(10, 0, 8, 0, 1));
        int rest = says("rest(40, 0, 0)", s.rest(40, 0, 0));
        int slur = says("slur(note, rest, 1, 3)", s.slur(note, rest, 1, 3));
        int accent = says("mark(note, 0, 10, 5)", s.mark(note, 0, 10, 5));
        int word = says("mark(note, 4, 40, 6)", s.mark(note, 4, 40, 6));
        says("set(4, 2, 1)", s.set(4, 2, 1));
        says("wide(word)", s.wide(word));
        says("push(word)", s.push(word));
        says("item(rest, 0)", s.item(rest, 0));
        says("set(4, 4, 1)", s.set(4, 4, 1));
        int late = says("mark(note, 4, 8, 6)", s.mark(note, 4, 8, 6));
        says("place()", s.place());
        says("at(accent, 2)", s.at(accent, 2));
        says("at(accent, 3)", s.at(accent, 3));
        says("row(4, -1)", s.row(4, -1));
        says("at(late, 3)", s.at(late, 3));
        says("order(note, -1, 1)", s.order(note, -1, 1));
        says("slurAt(slur, 0)", s.slurAt(slur, 0));
        says("skyline(10, 1)", s.skyline(10, 1));
        says("count(5)", s.count(5));
    }
}
