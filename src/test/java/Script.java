import java.util.ArrayList;
import java.util.List;
import java.util.regex.Matcher;
import java.util.regex.Pattern;

/**
 * The calls of one run on a new hall, read from lines: README.md tells how they are written.
 */
final class Script {
  static final int MOST_CALLS = 512;
  private static final Pattern EACH = Pattern.compile("(\\S+\\.\\.\\S+|\\[[^]]*]): (.*)");
  private static final Pattern CALL = Pattern.compile("(\\w+)\\(([^)]*)\\)(?: = (.+))?");
  private static final Pattern TEXT = Pattern.compile("(\\w+) \"([^\"]*)\"(?: = (.+))?");
  private static final Pattern BYTES = Pattern.compile("\\{(?:(\\d+)x)?(\\d+)}");

  private final List<Step> steps = new ArrayList<>();
  private int come;

  List<Step> steps() {
    return steps;
  }

  void addLine(String line) {
    Matcher each = EACH.matcher(line);
    if (!each.matches()) {
      addCalls(line);
      return;
    }
    for (String value : values(each.group(1).replaceAll("[\\[\\]]", ""))) {
      addCalls(each.group(2).replace("#", value));
    }
  }

  /** Numbers between blanks, among them rows such as 0..29 and 29..0. */
  private static List<String> values(String text) {
    List<String> values = new ArrayList<>();
    for (String word : text.isBlank() ? new String[0] : text.trim().split(" +")) {
      int dots = word.indexOf("..");
      if (dots < 0) {
        values.add(word);
        continue;
      }
      int from = Integer.parseInt(word.substring(0, dots));
      int to = Integer.parseInt(word.substring(dots + 2));
      for (int i = from; from <= to ? i <= to : i >= to; i += from <= to ? 1 : -1) {
        values.add(Integer.toString(i));
      }
    }
    return values;
  }

  private void addCalls(String line) {
    for (String told : line.split(" \\| ")) {
      addCall(told.trim());
    }
  }

  private void addCall(String told) {
    Matcher text = TEXT.matcher(told);
    Matcher call = CALL.matcher(told);
    int blank = told.indexOf(' ');
    if (text.matches()) {
      addText(text.group(1), bytes(text.group(2)), text.group(3));
    } else if (call.matches()) {
      add(call.group(1), call.group(2), call.group(3));
    } else {
      String word = blank < 0 ? told : told.substring(0, blank);
      addMany(word, values(blank < 0 ? "" : told.substring(blank)));
    }
  }

  private void add(String name, String inside, String want) {
    steps.add(new Step(name, inside, want));
    come += name.equals("come") ? 1 : 0;
  }

  private static String bytes(String text) {
    Matcher bytes = BYTES.matcher(text);
    StringBuilder plain = new StringBuilder();
    int from = 0;
    while (bytes.find()) {
      int times = bytes.group(1) == null ? 1 : Integer.parseInt(bytes.group(1));
      String one = Character.toString((char) Integer.parseInt(bytes.group(2)));
      plain.append(text, from, bytes.start()).append(one.repeat(times));
      from = bytes.end();
    }
    return plain.append(text.substring(from)).toString();
  }

  private void addText(String word, String text, String want) {
    for (int from = 0; from < text.length(); from += Tapes.BYTES_A_CALL) {
      int[] words = Tapes.words(text, from);
      String inside = java.util.Arrays.toString(words).replaceAll("[\\[\\]]", "");
      add("append", inside, null);
    }
    if (word.equals("order")) {
      add("setOrder", "", want);
    } else if (word.equals("wrong")) {
      add("setOrder", "", "ARG");
      add("errorPosition", "", want);
    } else if (!word.equals("tape")) {
      throw new IllegalArgumentException("there is no " + word);
    }
  }

  private void addMany(String word, List<String> values) {
    switch (word) {
      case "hall":
        for (String points : values) {
          add("come", "0", Integer.toString(come));
          add("setScore", come - 1 + ", 0, " + points, "0");
        }
        break;
      case "full":
        for (int i = 0; i < 30; i++) {
          add("come", "0", Integer.toString(come));
        }
        break;
      case "rounds":
        for (int i = 0; i < Integer.parseInt(values.get(0)); i++) {
          add("endRound", "", null);
        }
        break;
      case "standing":
        add("entrants", "", Integer.toString(values.size()));
        addRow("at", "place", values);
        break;
      case "ladder":
        addRow("ladderAt", "ladderPlace", values);
        break;
      default:
        throw new IllegalArgumentException("there is no " + word);
    }
  }

  private void addRow(String at, String place, List<String> values) {
    for (int i = 0; i < values.size(); i++) {
      add(at, Integer.toString(i + 1), values.get(i));
      add(place, values.get(i), Integer.toString(i + 1));
    }
    add(at, "0", "BOUNDS");
    add(at, Integer.toString(values.size() + 1), "BOUNDS");
  }
}
