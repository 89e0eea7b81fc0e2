import java.io.IOException;
import java.nio.file.Files;
import java.nio.file.Path;
import java.util.ArrayList;
import java.util.LinkedHashMap;
import java.util.LinkedHashSet;
import java.util.List;
import java.util.Map;
import java.util.Set;
import java.util.regex.Matcher;
import java.util.regex.Pattern;

/** The document's sentences, each under its head: "What it is", "Section 1", "Promise 1". */
final class Document {
  static final Path PATH = Path.of("../shared/DOC.md");
  private static final Pattern AHEAD =
      Pattern.compile("Ahead of the calls (.*) the interface says: ---- (.*)");

  private final Map<String, StringBuilder> texts = new LinkedHashMap<>();
  private final Set<String> due = new LinkedHashSet<>();
  private final List<Signature> face = new ArrayList<>();
  private final Map<String, String> titles = new LinkedHashMap<>();

  Document(Path path) throws IOException {
    String head = "";
    boolean isCode = false;
    for (String line : Files.readAllLines(path)) {
      if (line.startsWith("```")) {
        isCode = !isCode;
      } else if (isCode) {
        addToFace(line.trim());
      } else if (line.isBlank() || line.startsWith("# ")) {
        continue;
      } else if (line.matches("## Promise \\d+: .*")) {
        head = line.substring("## ".length(), line.indexOf(':'));
      } else if (line.startsWith("## ")) {
        head = line.substring("## ".length());
      } else if (line.matches("\\d\\. .*")) {
        head = "Section " + line.charAt(0);
      } else {
        texts.computeIfAbsent(head, none -> new StringBuilder()).append(line).append('\n');
        findSentences(head, line);
      }
    }
  }

  /** The public methods, in the document's order. */
  List<Signature> face() {
    return face;
  }

  /** What the interface says ahead of some calls, and the row of these calls: "come leave ..". */
  Map<String, String> titles() {
    return titles;
  }

  boolean says(String head, String sentence) {
    return texts.containsKey(head) && texts.get(head).indexOf(sentence) >= 0;
  }

  /** Every sentence that must have a test of its own, behind its head. */
  Set<String> due() {
    return due;
  }

  static String key(String head, String sentence) {
    return head + " > " + sentence;
  }

  private void addToFace(String line) {
    if (line.startsWith("public ") && line.contains("(") && !line.contains(" StandingsHall(")) {
      face.add(new Signature(line));
    }
  }

  /** What is told ahead of calls is FaceTest's, and what is not promised has no test. */
  private void findSentences(String head, String line) {
    Matcher ahead = AHEAD.matcher(line);
    if (ahead.matches()) {
      titles.put(ahead.group(2), ahead.group(1).replaceAll("[`,]", ""));
    } else if (line.startsWith("`")) {
      addEach(head, line.substring(line.indexOf("`: ") + "`: ".length()));
    } else if (line.startsWith("- ") || line.startsWith("Throws ")) {
      due.add(key(head, line));
    } else if (!head.equals("Not promised")) {
      addEach(head, line);
    }
  }

  private void addEach(String head, String line) {
    for (String sentence : line.split("(?<=[.])\\s+(?=[A-Z])")) {
      due.add(key(head, sentence));
    }
  }
}
