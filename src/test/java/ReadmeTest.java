import java.io.IOException;
import java.nio.file.Files;
import java.nio.file.Path;
import java.util.ArrayList;
import java.util.List;
import java.util.regex.Matcher;
import java.util.regex.Pattern;

/** README.md tells each call with what it throws, and answers that the class gives. */
public final class ReadmeTest {
  private static final Path README = Path.of("README.md");
  private static final Pattern ANSWERED =
      Pattern.compile("hall\\.(\\w+)\\((.*)\\);\\s+// (throws \\w+|-?[0-9/]+).*");
  private static final Pattern ROW = Pattern.compile("\\| `(\\w+\\(.*\\))` \\| .+ \\| (.+) \\|");
  private static final Pattern EXCEPTION = Pattern.compile("\\w+Exception");
  private static final Checks CHECKS = new Checks();

  public static void main(String[] args) throws IOException {
    List<String> lines = Files.readAllLines(README);
    callsAnswerAsTold(lines);
    tablesHaveEachCall(lines, new Document(Document.PATH));
    CHECKS.end("ReadmeTest");
  }

  private static void callsAnswerAsTold(List<String> lines) {
    StandingsHall hall = new StandingsHall();
    int made = 0;
    for (String line : lines) {
      Matcher call = ANSWERED.matcher(line);
      if (call.matches()) {
        Step step = new Step(call.group(1), call.group(2), due(call.group(3)));
        String answer = step.answer(hall);
        CHECKS.holds(step + ", answered " + answer, step.isDue(answer));
        made++;
      } else {
        CHECKS.holds("no answer is told: " + line, !line.startsWith("hall."));
      }
    }
    CHECKS.holds("the calls were found", made > 20);
  }

  private static String due(String told) {
    switch (told) {
      case "throws IndexOutOfBoundsException": return "BOUNDS";
      case "throws IllegalArgumentException": return "ARG";
      case "throws IllegalStateException": return "STATE";
      case "throws NoSuchElementException": return "ELEMENT";
      default: return told;
    }
  }

  private static void tablesHaveEachCall(List<String> lines, Document document) {
    List<String> got = new ArrayList<>();
    for (String line : lines) {
      Matcher row = ROW.matcher(line);
      if (row.matches()) {
        got.add(row.group(1) + " " + exceptionsIn(row.group(2)));
      }
    }
    List<String> want = new ArrayList<>();
    for (Signature one : document.face()) {
      want.add(one.asCall() + " " + one.exceptions);
    }
    for (int i = 0; i < Math.max(got.size(), want.size()); i++) {
      String told = i < got.size() ? got.get(i) : "nothing";
      String due = i < want.size() ? want.get(i) : "nothing";
      CHECKS.holds("README.md tells " + told + ", due is " + due, told.equals(due));
    }
    for (String title : document.titles().keySet()) {
      String plain = "### " + title.substring(0, title.length() - 1);
      CHECKS.holds("README.md has no " + plain, lines.contains(plain));
    }
  }

  private static List<String> exceptionsIn(String text) {
    List<String> exceptions = new ArrayList<>();
    Matcher one = EXCEPTION.matcher(text);
    while (one.find()) {
      exceptions.add(one.group());
    }
    return exceptions;
  }
}
