/** Counts the answers that are not as due, and ends a test's main method. */
final class Checks {
  interface Call {
    double make();
  }

  static final Class<?> BOUNDS = IndexOutOfBoundsException.class;
  static final Class<?> ARGUMENT = IllegalArgumentException.class;
  static final Class<?> STATE = IllegalStateException.class;
  static final Class<?> ELEMENT = java.util.NoSuchElementException.class;

  private int wrong = 0;
  private int made = 0;

  void due(String what, double got, double want) {
    made++;
    if (got != want) {
      wrong(what + " answered " + got + ", due is " + want);
    }
  }

  /** The call must throw just this class, by a throw statement of the program itself. */
  void refuses(String what, Class<?> want, Call call) {
    made++;
    String got = thrownBy(call);
    if (!got.equals(want.getName())) {
      wrong(what + " answered " + got + ", due is throws " + want.getName());
    }
  }

  void holds(String what, boolean isTrue) {
    made++;
    if (!isTrue) {
      wrong(what);
    }
  }

  void wrong(String what) {
    wrong++;
    if (wrong <= 40) {
      System.out.println(what);
    }
  }

  int wrongs() {
    return wrong;
  }

  /** The answer as a text; for an exception its class, and where it was thrown if not in the class. */
  static String thrownBy(Call call) {
    try {
      return Double.toString(call.make());
    } catch (RuntimeException thrown) {
      StackTraceElement[] trace = thrown.getStackTrace();
      boolean isOwn = trace.length > 0 && trace[0].getClassName().startsWith("StandingsHall");
      return thrown.getClass().getName() + (isOwn ? "" : " thrown by the machine or the library");
    }
  }

  void end(String name) {
    System.out.println(name + ": " + made + " checks, " + wrong + " wrong");
    if (wrong != 0) {
      System.exit(1);
    }
  }
}
