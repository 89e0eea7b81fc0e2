import java.lang.reflect.Constructor;
import java.lang.reflect.Field;
import java.lang.reflect.Method;
import java.lang.reflect.Modifier;
import java.nio.file.Files;
import java.nio.file.Path;
import java.util.Arrays;
import java.util.List;
import java.util.Map;
import java.util.Set;
import java.util.TreeSet;

/** The face of the class is the document's, and the text of the program keeps to its rules. */
public final class FaceTest {
  private static final Path SOURCE = Path.of("src/main/java/StandingsHall.java");
  private static final String TITLE = "  // ---- ";
  private static final Checks CHECKS = new Checks();

  public static void main(String[] args) throws Exception {
    Document document = new Document(Document.PATH);
    faceIsTheDocuments(document);
    callsStandUnderTheirTitles(document);
    nothingElseIsSeen();
    textKeepsToTheRules();
    methodsAreShort();
    CHECKS.end("FaceTest");
  }

  private static void faceIsTheDocuments(Document document) {
    Set<String> want = new TreeSet<>();
    for (Signature one : document.face()) {
      want.add(one.compiled());
    }
    Set<String> got = new TreeSet<>();
    for (Method method : StandingsHall.class.getDeclaredMethods()) {
      if (!Modifier.isPrivate(method.getModifiers())) {
        got.add(new Signature(method).compiled());
      }
    }
    CHECKS.holds("the document's face was found", want.size() == 50);
    CHECKS.holds("methods: " + got + "\ndue are: " + want, got.equals(want));
    CHECKS.holds("NONE is -1", StandingsHall.NONE == -1);
  }

  /** The calls stand in the document's order, under what the interface says ahead of them. */
  private static void callsStandUnderTheirTitles(Document document) throws Exception {
    StringBuilder want = new StringBuilder();
    for (Map.Entry<String, String> one : document.titles().entrySet()) {
      want.append('\n').append(one.getKey()).append(' ').append(one.getValue());
    }
    StringBuilder got = new StringBuilder();
    for (String line : Files.readAllLines(SOURCE)) {
      if (line.startsWith(TITLE)) {
        got.append('\n').append(line.substring(TITLE.length()));
      } else if (line.matches(" {2}public \\w+ \\w+\\(.*")) {
        got.append(' ').append(line.substring(0, line.indexOf('(')).trim().split(" ")[2]);
      }
    }
    CHECKS.holds("titles:" + got + "\ndue are:" + want, got.indexOf(want.toString()) == 0);
  }

  private static void nothingElseIsSeen() {
    Set<String> open = new TreeSet<>();
    Set<String> hidden = new TreeSet<>();
    for (Method method : StandingsHall.class.getDeclaredMethods()) {
      (Modifier.isPublic(method.getModifiers()) ? open : hidden).add(method.getName());
      CHECKS.holds(method + " is neither public nor private",
          (method.getModifiers() & (Modifier.PUBLIC | Modifier.PRIVATE)) != 0);
    }
    hidden.retainAll(open);
    CHECKS.holds("private methods that bear a public name: " + hidden, hidden.isEmpty());
    for (Field field : StandingsHall.class.getDeclaredFields()) {
      boolean isConstant = field.getName().equals("NONE");
      CHECKS.holds(field + " is seen, or is not",
          Modifier.isPublic(field.getModifiers()) == isConstant
              && Modifier.isPrivate(field.getModifiers()) != isConstant);
      CHECKS.holds(field + " is static, but not final",
          !Modifier.isStatic(field.getModifiers()) || Modifier.isFinal(field.getModifiers()));
    }
    Constructor<?>[] constructors = StandingsHall.class.getDeclaredConstructors();
    CHECKS.holds("there is one constructor, a public one", constructors.length == 1
        && Modifier.isPublic(constructors[0].getModifiers()));
    CHECKS.holds("the class is final", Modifier.isFinal(StandingsHall.class.getModifiers()));
    for (Class<?> inside : StandingsHall.class.getDeclaredClasses()) {
      CHECKS.holds(inside + " is static", Modifier.isStatic(inside.getModifiers()));
    }
    CHECKS.holds("at most twelve classes", StandingsHall.class.getDeclaredClasses().length < 12);
  }

  private static void textKeepsToTheRules() throws Exception {
    String text = Files.readString(SOURCE);
    List<String> ruledOut = Arrays.asList("->", "::", "catch", "finally", "try {", "synchronized",
        "assert ", "package ", "Exact", "System.out", "static {", "while (true)", "for (;;)",
        "String ", "Object ", "Random", "Thread", "Math.sqrt", "Math.ceil", "instanceof");
    for (String word : ruledOut) {
      CHECKS.holds("the program has: " + word, !text.contains(word));
    }
    for (String line : text.split("\n")) {
      CHECKS.holds("too long a line: " + line, line.length() <= 100);
      if (line.startsWith("import ")) {
        CHECKS.holds("ruled out: " + line, line.equals("import java.util.ArrayList;")
            || line.equals("import java.util.Arrays;")
            || line.equals("import java.util.NoSuchElementException;"));
      }
    }
    for (int i = 0; i < text.length(); i++) {
      CHECKS.holds("a sign beyond 127 at " + i, text.charAt(i) < 128);
    }
  }

  private static void methodsAreShort() throws Exception {
    int begin = -1;
    List<String> lines = Files.readAllLines(SOURCE);
    for (int i = 0; i < lines.size(); i++) {
      String line = lines.get(i);
      boolean isClass = line.contains(" class ");
      if (line.endsWith("{") && !isClass && line.matches(" {2}( {2})?\\S.*") && begin < 0) {
        begin = i;
      }
      if (begin >= 0 && line.matches(" {2}( {2})?}")) {
        CHECKS.holds("a method of over 60 lines at line " + begin, i - begin <= 60);
        begin = -1;
      }
    }
  }
}
