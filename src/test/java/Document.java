import java.io.IOException;
import java.nio.file.Files;
import java.nio.file.Path;
import java.util.LinkedHashMap;
import java.util.LinkedHashSet;
import java.util.Map;
import java.util.Set;

/** The document's sentences, each under its head: "What it is", "Section 1", "Promise 1". */
final class Document {
  private final Map<String, StringBuilder> texts = new LinkedHashMap<>();
  private final Set<String> due = new LinkedHashSet<>();

  Document(Path path) throws IOException {
    String head = "";
    boolean isCode = false;
    for (String line : Files.readAllLines(path)) {
      if (line.startsWith("```")) {
        isCode = !isCode;
      } else if (isCode || line.isBlank()) {
        continue;
      } else if (line.matches("## Promise \\d+: .*")) {
        head = line.substring("## ".length(), line.indexOf(':'));
      } else if (line.startsWith("## ")) {
        head = line.substring("## ".length());
      } else if (line.matches("\\d\\. .*")) {
        head = "Section " + line.charAt(0);
      } else {
        texts.computeIfAbsent(head, none -> new StringBuilder()).append(line).append('\n');
        findSentences(head, line);
      }
    }
  }

  boolean says(String head, String sentence) {
    return texts.containsKey(head) && texts.get(head).indexOf(sentence) >= 0;
  }

  /** Every sentence that must have a test of its own, behind its head. */
  Set<String> due() {
    return due;
  }

  static String key(String head, String sentence) {
    return head + " > " + sentence;
  }

  private void findSentences(String head, String line) {
    boolean isUseLimit = head.equals("What it is") && line.contains("512");
    boolean isTerm = head.startsWith("Section ") && !line.startsWith("Ahead of the calls ");
    if (isUseLimit || isTerm) {
      addEach(head, line);
    } else if (head.startsWith("Promise ")) {
      findPromised(head, line);
    }
  }

  /** What a call does, the bounds of its parameters and of its answer, and what it throws. */
  private void findPromised(String head, String line) {
    boolean isBoundedParameter = line.startsWith("- ") && !line.endsWith(": number of an entrant");
    boolean isBoundedAnswer = line.startsWith("Returns ") && line.matches(".*(\\d|NONE).*");
    if (line.startsWith("`")) {
      addEach(head, line.substring(line.indexOf("`: ") + "`: ".length()));
    } else if (isBoundedParameter || isBoundedAnswer || line.startsWith("Throws ")) {
      due.add(key(head, line));
    }
  }

  private void addEach(String head, String line) {
    for (String sentence : line.split("(?<=[.])\\s+(?=[A-Z])")) {
      due.add(key(head, sentence));
    }
  }
}
