import java.io.IOException;
import java.nio.file.Files;
import java.nio.file.Path;
import java.util.ArrayList;
import java.util.LinkedHashSet;
import java.util.List;
import java.util.Set;
import java.util.stream.Collectors;
import java.util.stream.Stream;

/**
 * The files under src/test/sentences: for each sentence of the document that promises something a
 * test of its own, runs of calls with the answers that are due. Behind each call that throws, and behind
 * each that only asks, the hall must be as one on which the call has not been made.
 */
public final class SentencesTest {
  private static final Path FILES = Path.of("src/test/sentences");
  private static final Checks CHECKS = new Checks();

  private final Document document;
  private final Set<String> quoted = new LinkedHashSet<>();
  private final Set<String> tested = new LinkedHashSet<>();
  private String head = "";
  private String sentence = "";
  private Script script = new Script();
  private String scriptPlace = "";

  private SentencesTest(Document document) {
    this.document = document;
  }

  public static void main(String[] args) throws IOException {
    SentencesTest test = new SentencesTest(new Document(Document.PATH));
    List<Path> files;
    try (Stream<Path> found = Files.list(FILES)) {
      files = found.sorted().collect(Collectors.toList());
    }
    for (Path file : files) {
      test.read(file);
    }
    test.everySentenceHasATest();
    CHECKS.end("SentencesTest");
  }

  private void read(Path file) throws IOException {
    List<String> lines = new ArrayList<>(Files.readAllLines(file));
    for (int i = 0; i < lines.size(); i++) {
      String line = lines.get(i).trim();
      String place = file.getFileName() + ":" + (i + 1);
      if (line.startsWith("== ")) {
        endRun();
        head = line.substring(3);
      } else if (line.startsWith("> ")) {
        endRun();
        begin(place, line.substring(2));
      } else if (line.isEmpty()) {
        endRun();
      } else if (!line.startsWith("-- ")) {
        addLine(place, line);
      }
    }
    endRun();
  }

  private void begin(String place, String told) {
    sentence = Document.key(head, told);
    CHECKS.holds(place + ": the document does not say: " + sentence, document.says(head, told));
    CHECKS.holds(place + ": a second test of: " + sentence, quoted.add(sentence));
  }

  private void addLine(String place, String line) {
    if (script.steps().isEmpty()) {
      scriptPlace = place;
    }
    try {
      script.addLine(line);
    } catch (IllegalArgumentException bad) {
      CHECKS.wrong(place + ": " + bad.getMessage());
    }
  }

  private void endRun() {
    if (!script.steps().isEmpty()) {
      run(script.steps());
      tested.add(sentence);
    }
    script = new Script();
  }

  private void run(List<Step> steps) {
    CHECKS.holds(scriptPlace + ": more than 512 calls: " + steps.size(),
        steps.size() <= Script.MOST_CALLS);
    StandingsHall hall = new StandingsHall();
    for (int i = 0; i < steps.size(); i++) {
      Step step = steps.get(i);
      String answer = step.answer(hall);
      CHECKS.holds(scriptPlace + ": " + sentence + "\n  call " + (i + 1) + ": " + step
          + ", answered " + answer, step.isDue(answer));
      if (step.isAsking() || Step.isThrown(answer)) {
        changesNothing(steps, i);
      }
    }
  }

  /** A refused setOrder() is as clearTape(), but for the error position. */
  private void changesNothing(List<Step> steps, int last) {
    Step step = steps.get(last);
    StandingsHall made = after(steps, last + 1);
    StandingsHall notMade = after(steps, last);
    if (step.isSettingTheOrder()) {
      notMade.clearTape();
    }
    int room = Script.MOST_CALLS - last - 1;
    String got = Trace.of(made, room, !step.isSettingTheOrder());
    String want = Trace.of(notMade, room, !step.isSettingTheOrder());
    CHECKS.holds(scriptPlace + ": " + sentence + "\n  call " + (last + 1) + ": " + step
        + " has changed:\n" + got + "from:\n" + want, got.equals(want));
  }

  private static StandingsHall after(List<Step> steps, int count) {
    StandingsHall hall = new StandingsHall();
    for (int i = 0; i < count; i++) {
      steps.get(i).answer(hall);
    }
    return hall;
  }

  private void everySentenceHasATest() {
    quoted.addAll(document.due());
    for (String due : quoted) {
      CHECKS.holds("no test of: " + due, tested.contains(due));
    }
  }
}
