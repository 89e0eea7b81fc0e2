import java.lang.reflect.Method;
import java.util.ArrayList;
import java.util.List;

/** A method as it is written in the face, from its type to the exceptions that it throws. */
final class Signature {
  final String type;
  final String name;
  final List<String> types = new ArrayList<>();
  final List<String> parameters = new ArrayList<>();
  final List<String> exceptions = new ArrayList<>();

  /** From a line such as "public int at(int place) throws IndexOutOfBoundsException;". */
  Signature(String line) {
    String[] head = line.substring(0, line.indexOf('(')).split(" ");
    type = head[head.length - 2];
    name = head[head.length - 1];
    String inside = line.substring(line.indexOf('(') + 1, line.indexOf(')'));
    for (String parameter : inside.isEmpty() ? new String[0] : inside.split(", ")) {
      types.add(parameter.split(" ")[0]);
      parameters.add(parameter.split(" ")[1]);
    }
    String behind = line.substring(line.indexOf(')') + 1).replace(";", "").replace("{", "").trim();
    for (String one : behind.isEmpty() ? new String[0]
        : behind.substring("throws ".length()).split(", ")) {
      exceptions.add(one);
    }
  }

  Signature(Method method) {
    type = method.getReturnType().getName();
    name = method.getName();
    for (Class<?> one : method.getParameterTypes()) {
      types.add(one.getName());
    }
    for (Class<?> one : method.getExceptionTypes()) {
      exceptions.add(one.getSimpleName());
    }
  }

  /** The same for a method that was written and for one that was compiled. */
  String compiled() {
    return type + " " + name + types + exceptions;
  }

  /** As a call: "score(entrant, kind, more)". */
  String asCall() {
    return name + "(" + String.join(", ", parameters) + ")";
  }
}
