/** Numbers as the runs tell them: "MOST", "-100000", "0x3e61", "2*7+1". */
final class Sums {
  private final String text;
  private int at;

  private Sums(String text) {
    this.text = text;
  }

  static int value(String text) {
    Sums sums = new Sums(text.replace(" ", ""));
    long value = sums.sum();
    if (sums.at != sums.text.length() || value < Integer.MIN_VALUE || value > 0xffffffffL) {
      throw new IllegalArgumentException("no number: " + text);
    }
    return (int) value;
  }

  private long sum() {
    long value = product();
    while (at < text.length() && (text.charAt(at) == '+' || text.charAt(at) == '-')) {
      int sign = text.charAt(at++) == '+' ? 1 : -1;
      value += sign * product();
    }
    return value;
  }

  private long product() {
    long value = factor();
    while (at < text.length() && text.charAt(at) == '*') {
      at++;
      value *= factor();
    }
    return value;
  }

  private long factor() {
    if (at < text.length() && text.charAt(at) == '-') {
      at++;
      return -factor();
    }
    int from = at;
    while (at < text.length() && Character.isLetterOrDigit(text.charAt(at))) {
      at++;
    }
    String word = text.substring(from, at);
    switch (word) {
      case "LEAST": return Integer.MIN_VALUE;
      case "MOST": return Integer.MAX_VALUE;
      case "NONE": return StandingsHall.NONE;
      default: return Long.decode(word);
    }
  }
}
