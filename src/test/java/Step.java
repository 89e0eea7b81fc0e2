import java.lang.reflect.InvocationTargetException;
import java.lang.reflect.Method;
import java.util.Set;

/** One call of a run, with the answer that is due; without one it must only not throw. */
final class Step {
  private static final Set<String> CHANGING = Set.of("append", "clearTape", "setOrder", "come",
      "leave", "score", "setScore", "enter", "challenge", "setReach", "setPatience", "endRound");

  private final String told;
  private final Method method;
  private final Object[] arguments;
  private final String want;

  Step(String name, String inside, String want) {
    method = methodNamed(name);
    String[] parts = inside.isBlank() ? new String[0] : inside.split(",");
    Class<?>[] types = method.getParameterTypes();
    if (parts.length != types.length) {
      throw new IllegalArgumentException(name + " has not these parameters: " + inside);
    }
    arguments = new Object[parts.length];
    for (int i = 0; i < parts.length; i++) {
      String part = parts[i].trim();
      arguments[i] = types[i] == boolean.class ? (Object) Boolean.valueOf(part)
          : (Object) Sums.value(part);
    }
    told = name + "(" + inside + ")";
    this.want = want == null ? null : due(want.trim());
  }

  private static Method methodNamed(String name) {
    for (Method one : StandingsHall.class.getMethods()) {
      if (one.getName().equals(name) && one.getDeclaringClass() == StandingsHall.class) {
        return one;
      }
    }
    throw new IllegalArgumentException("there is no call " + name);
  }

  private String due(String text) {
    switch (text) {
      case "BOUNDS": return Checks.BOUNDS.getName();
      case "ARG": return Checks.ARGUMENT.getName();
      case "STATE": return Checks.STATE.getName();
      case "ELEMENT": return Checks.ELEMENT.getName();
      default: return number(text);
    }
  }

  /** Numbers are told by Double, whatever the call's type; a share is divided in that type. */
  private String number(String text) {
    int slash = text.indexOf('/');
    int above = Sums.value(slash < 0 ? text : text.substring(0, slash));
    int below = slash < 0 ? 1 : Sums.value(text.substring(slash + 1));
    if (method.getReturnType() == float.class) {
      return Double.toString((float) above / (float) below);
    }
    return Double.toString((double) above / (double) below);
  }

  String answer(StandingsHall hall) {
    return Checks.thrownBy(() -> made(hall));
  }

  private double made(StandingsHall hall) {
    try {
      return ((Number) method.invoke(hall, arguments)).doubleValue();
    } catch (InvocationTargetException thrown) {
      if (thrown.getCause() instanceof RuntimeException) {
        throw (RuntimeException) thrown.getCause();
      }
      throw (Error) thrown.getCause();
    } catch (IllegalAccessException never) {
      throw new AssertionError(never);
    }
  }

  boolean isDue(String answer) {
    return want == null ? !isThrown(answer) : want.equals(answer);
  }

  static boolean isThrown(String answer) {
    return answer.startsWith("java.");
  }

  boolean isAsking() {
    return !CHANGING.contains(method.getName());
  }

  boolean isSettingTheOrder() {
    return method.getName().equals("setOrder");
  }

  @Override
  public String toString() {
    return told + (want == null ? "" : ", due is " + want);
  }
}
