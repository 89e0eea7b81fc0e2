/** Puts texts onto a hall's tape. */
final class Tapes {
  static final int BYTES_A_CALL = 20;

  static void put(StandingsHall hall, String text) {
    for (int from = 0; from < text.length(); from += BYTES_A_CALL) {
      int[] words = words(text, from);
      hall.append(words[0], words[1], words[2], words[3], words[4]);
    }
  }

  /** Sets an order by its text. */
  static int order(StandingsHall hall, String text) {
    hall.clearTape();
    put(hall, text);
    return hall.setOrder();
  }

  static int[] words(String text, int from) {
    int[] words = new int[5];
    for (int i = 0; i < BYTES_A_CALL; i++) {
      int sign = from + i < text.length() ? text.charAt(from + i) & 255 : 0;
      words[i / 4] |= sign << 24 - 8 * (i % 4);
    }
    return words;
  }
}
