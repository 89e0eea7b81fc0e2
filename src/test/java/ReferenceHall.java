import java.util.ArrayList;
import java.util.Collections;
import java.util.LinkedList;
import java.util.List;
import java.util.NoSuchElementException;
import java.util.TreeMap;

/**
 * The document once more, in the plainest form and with the Java library, to hold the class
 * against: everything is told anew from the scores at each call.
 */
final class ReferenceHall {
  private static final class Term {
    int factor;
    int kind;
  }

  private static final class Criterion {
    boolean isGreater;
    final List<Term> terms = new ArrayList<>();
  }

  private static final class BadText extends Exception {
    private static final long serialVersionUID = 1L;
    final int position;

    BadText(int position) {
      this.position = position;
    }
  }

  private final StringBuilder tape = new StringBuilder();
  private List<Criterion> order = new ArrayList<>();
  private int errorPosition = -1;
  private final List<int[]> scores = new ArrayList<>();
  private final List<Integer> groups = new ArrayList<>();
  private final List<Boolean> there = new ArrayList<>();
  private final TreeMap<Integer, LinkedList<Integer>> byPoints = new TreeMap<>();
  private final LinkedList<Integer> ladder = new LinkedList<>();
  private final TreeMap<Integer, Integer> enteredIn = new TreeMap<>();
  private final List<List<Integer>> playedIn = new ArrayList<>();
  private int reach = 2;
  private int patience = 3;
  private final List<List<Integer>> recorded = new ArrayList<>();
  private final List<TreeMap<Integer, Integer>> gains = new ArrayList<>();
  private TreeMap<Integer, Integer> gainsNow = new TreeMap<>();

  ReferenceHall() {
    try {
      order = parse(">a");
    } catch (BadText never) {
      throw new AssertionError(never);
    }
    playedIn.add(new ArrayList<>());
  }

  // ---- The tape, the order.

  int append(int[] words) {
    StringBuilder more = new StringBuilder();
    for (int word : words) {
      for (int i = 3; i >= 0; i--) {
        char one = (char) (word >> 8 * i & 255);
        if (one != 0) {
          more.append(one);
        }
      }
    }
    if (tape.length() + more.length() > 100) {
      throw new IllegalStateException();
    }
    return tape.append(more).length();
  }

  int clearTape() {
    int had = tape.length();
    tape.setLength(0);
    return had;
  }

  int setOrder() {
    String text = tape.toString();
    tape.setLength(0);
    try {
      order = parse(text);
      errorPosition = -1;
      return order.size();
    } catch (BadText bad) {
      errorPosition = bad.position;
      throw new IllegalArgumentException();
    }
  }

  int errorPosition() {
    return errorPosition;
  }

  private static List<String> tokens(String text, List<Integer> starts) {
    List<String> tokens = new ArrayList<>();
    int i = 0;
    while (i < text.length()) {
      char one = text.charAt(i);
      if (one == 32 || one == 10) {
        i++;
        continue;
      }
      int end = i + 1;
      if (one >= '0' && one <= '9') {
        while (end < text.length() && text.charAt(end) >= '0' && text.charAt(end) <= '9') {
          end++;
        }
      }
      tokens.add(text.substring(i, end));
      starts.add(i);
      i = end;
    }
    tokens.add("");
    starts.add(text.length());
    return tokens;
  }

  private static List<Criterion> parse(String text) throws BadText {
    List<Integer> starts = new ArrayList<>();
    List<String> tokens = tokens(text, starts);
    List<Criterion> told = new ArrayList<>();
    int i = 0;
    while (true) {
      if (told.size() == 4 || !tokens.get(i).matches("[<>]")) {
        throw new BadText(starts.get(i));
      }
      Criterion criterion = new Criterion();
      told.add(criterion);
      criterion.isGreater = tokens.get(i).equals(">");
      boolean isMinus = false;
      while (true) {
        i++;
        if (criterion.terms.size() == 4) {
          throw new BadText(starts.get(i));
        }
        Term term = new Term();
        term.factor = 1;
        if (tokens.get(i).matches("[0-9]{1,3}")) {
          term.factor = Integer.parseInt(tokens.get(i));
          i++;
          if (!tokens.get(i).equals("*")) {
            throw new BadText(starts.get(i));
          }
          i++;
        }
        if (!tokens.get(i).matches("[abcd]")) {
          throw new BadText(starts.get(i));
        }
        term.kind = tokens.get(i).charAt(0) - 'a';
        term.factor = isMinus ? -term.factor : term.factor;
        criterion.terms.add(term);
        i++;
        if (!tokens.get(i).matches("[+]|-")) {
          break;
        }
        isMinus = tokens.get(i).equals("-");
      }
      if (tokens.get(i).isEmpty()) {
        return told;
      }
      if (!tokens.get(i).equals(";")) {
        throw new BadText(starts.get(i));
      }
      i++;
    }
  }

  private static long value(Criterion criterion, int[] scores) {
    long sum = 0;
    for (Term term : criterion.terms) {
      sum += (long) term.factor * scores[term.kind];
    }
    return sum;
  }

  int criterion(int entrant, int criterion) {
    need(entrant);
    refuse(criterion < 0 || criterion >= order.size());
    return Math.toIntExact(value(order.get(criterion), scores.get(entrant)));
  }

  // ---- Entrants.

  private boolean isThere(int entrant) {
    return entrant >= 0 && entrant < there.size() && there.get(entrant);
  }

  private void need(int entrant) {
    if (!isThere(entrant)) {
      throw new IndexOutOfBoundsException();
    }
  }

  private static void refuse(boolean isWrong) {
    if (isWrong) {
      throw new IllegalArgumentException();
    }
  }

  int come(int group) {
    refuse(group < 0 || group > 4);
    if (there.size() == 30) {
      throw new IllegalStateException();
    }
    scores.add(new int[4]);
    groups.add(group);
    there.add(true);
    int number = there.size() - 1;
    gainsNow.put(number, 0);
    byPoints.computeIfAbsent(0, points -> new LinkedList<>()).add(number);
    return number;
  }

  private void takePoints(int entrant) {
    int points = scores.get(entrant)[0];
    byPoints.get(points).remove(Integer.valueOf(entrant));
    if (byPoints.get(points).isEmpty()) {
      byPoints.remove(points);
    }
  }

  int leave(int entrant) {
    int had = place(entrant);
    takePoints(entrant);
    there.set(entrant, false);
    gainsNow.remove(entrant);
    ladder.remove(Integer.valueOf(entrant));
    return had;
  }

  private void change(int entrant, int kind, int value) {
    int before = scores.get(entrant)[kind];
    if (kind == 0 && value != before) {
      takePoints(entrant);
      byPoints.computeIfAbsent(value, points -> new LinkedList<>()).add(entrant);
      gainsNow.merge(entrant, value - before, Integer::sum);
    }
    scores.get(entrant)[kind] = value;
  }

  private int raised(int entrant, int kind, int more) {
    need(entrant);
    refuse(kind < 0 || kind > 3);
    long value = (long) scores.get(entrant)[kind] + more;
    refuse(Math.abs(value) > 100000);
    return (int) value;
  }

  int score(int entrant, int kind, int more) {
    int value = raised(entrant, kind, more);
    change(entrant, kind, value);
    return value;
  }

  int setScore(int entrant, int kind, int value) {
    need(entrant);
    refuse(kind < 0 || kind > 3 || Math.abs((long) value) > 100000);
    int before = scores.get(entrant)[kind];
    change(entrant, kind, value);
    return before;
  }

  int scoreOf(int entrant, int kind) {
    need(entrant);
    refuse(kind < 0 || kind > 3);
    return scores.get(entrant)[kind];
  }

  int groupOf(int entrant) {
    need(entrant);
    return groups.get(entrant);
  }

  int entrants() {
    return standing().size();
  }

  // ---- The standing.

  private int compare(int[] one, int[] other) {
    for (Criterion criterion : order) {
      int sign = Long.compare(value(criterion, other), value(criterion, one));
      if (sign != 0) {
        return criterion.isGreater ? sign : -sign;
      }
    }
    return 0;
  }

  private int compare(int one, int other) {
    return compare(scores.get(one), scores.get(other));
  }

  private List<Integer> standing() {
    List<Integer> row = new ArrayList<>();
    for (int i = 0; i < there.size(); i++) {
      if (there.get(i)) {
        row.add(i);
      }
    }
    row.sort(this::compare);
    return row;
  }

  private static int atPlace(List<Integer> row, int place) {
    if (place < 1 || place > row.size()) {
      throw new IndexOutOfBoundsException();
    }
    return row.get(place - 1);
  }

  int at(int place) {
    return atPlace(standing(), place);
  }

  int place(int entrant) {
    need(entrant);
    return standing().indexOf(entrant) + 1;
  }

  int rank(int entrant, int sort) {
    need(entrant);
    refuse(sort < 0 || sort > 2);
    List<Integer> better = new ArrayList<>(standing());
    better.removeIf(other -> compare(other, entrant) >= 0);
    if (sort == 0) {
      return 1 + better.size();
    }
    int unlike = 0;
    for (int i = 0; i < better.size(); i++) {
      unlike += i == 0 || compare(better.get(i - 1), better.get(i)) != 0 ? 1 : 0;
    }
    if (sort == 1) {
      return 1 + unlike;
    }
    int sum = 0;
    int count = 0;
    for (int other : standing()) {
      if (compare(other, entrant) == 0) {
        sum += place(other);
        count++;
      }
    }
    return 2 * sum / count;
  }

  int alike(int entrant) {
    need(entrant);
    return (int) standing().stream().filter(other -> compare(other, entrant) == 0).count();
  }

  int results() {
    List<Integer> unlike = new ArrayList<>();
    for (int one : standing()) {
      if (unlike.stream().noneMatch(other -> compare(other, one) == 0)) {
        unlike.add(one);
      }
    }
    return unlike.size();
  }

  int rankSum() {
    return entrants() * (entrants() + 1);
  }

  int wouldGain(int entrant, int kind, int more) {
    int value = raised(entrant, kind, more);
    int now = place(entrant);
    int before = scores.get(entrant)[kind];
    scores.get(entrant)[kind] = value;
    int then = place(entrant);
    scores.get(entrant)[kind] = before;
    return now - then;
  }

  int needed(int entrant, int rank) {
    need(entrant);
    refuse(rank < 1 || rank > 30);
    int[] tried = scores.get(entrant).clone();
    for (int more = 0; more <= 1000 && tried[0] <= 100000; more++) {
      int better = 0;
      for (int other : standing()) {
        better += other != entrant && compare(scores.get(other), tried) < 0 ? 1 : 0;
      }
      if (better + 1 <= rank) {
        return more;
      }
      tried[0]++;
    }
    return -1;
  }

  // ---- Points.

  private List<Integer> row() {
    List<Integer> row = new ArrayList<>();
    for (int one : standing()) {
      row.add(scores.get(one)[0]);
    }
    Collections.sort(row);
    return row;
  }

  private void needSomebody() {
    if (standing().isEmpty()) {
      throw new NoSuchElementException();
    }
  }

  int above(int points) {
    return (int) row().stream().filter(one -> one > points).count();
  }

  int with(int points) {
    return Collections.frequency(row(), points);
  }

  int withAt(int points, int index) {
    LinkedList<Integer> some = byPoints.getOrDefault(points, new LinkedList<>());
    return index >= 0 && index < some.size() ? some.get(index) : -1;
  }

  int next(int points) {
    Integer found = byPoints.higherKey(points);
    if (found == null) {
      throw new NoSuchElementException();
    }
    return found;
  }

  int between(int from, int to) {
    refuse(from > to);
    return (int) row().stream().filter(one -> one >= from && one < to).count();
  }

  int median(boolean isHigh) {
    needSomebody();
    int n = row().size();
    return row().get((isHigh ? n / 2 + 1 : (n + 1) / 2) - 1);
  }

  int quantile(int p, int q) {
    refuse(q < 1 || q > 100 || p < 0 || p > q);
    needSomebody();
    int place = 1;
    while (place * q < row().size() * p) {
      place++;
    }
    return row().get(place - 1);
  }

  // ---- The ladder.

  int enter(int entrant) {
    need(entrant);
    if (ladder.contains(entrant)) {
      throw new IllegalStateException();
    }
    ladder.add(entrant);
    enteredIn.put(entrant, round());
    return ladder.size();
  }

  int challenge(int challenger, int other, boolean wins) {
    need(challenger);
    need(other);
    int from = ladder.indexOf(challenger);
    int to = ladder.indexOf(other);
    if (from < 0 || to < 0 || to >= from || to < from - reach) {
      throw new IllegalStateException();
    }
    playedIn.get(round()).add(challenger);
    playedIn.get(round()).add(other);
    if (wins) {
      ladder.remove(from);
      ladder.add(to, challenger);
    }
    return ladder.indexOf(challenger) + 1;
  }

  int mayChallenge(int entrant) {
    need(entrant);
    int count = 0;
    for (int i = ladder.indexOf(entrant) - 1; i >= 0; i--) {
      count += count < reach ? 1 : 0;
    }
    return count;
  }

  int setReach(int reach) {
    refuse(reach < 1 || reach > 5);
    int before = this.reach;
    this.reach = reach;
    return before;
  }

  int setPatience(int rounds) {
    refuse(rounds < 1 || rounds > 9);
    int before = patience;
    patience = rounds;
    return before;
  }

  int ladderAt(int place) {
    return atPlace(ladder, place);
  }

  int ladderSize() {
    return ladder.size();
  }

  int ladderPlace(int entrant) {
    need(entrant);
    return ladder.contains(entrant) ? ladder.indexOf(entrant) + 1 : -1;
  }

  private boolean falls(int entrant) {
    for (int i = 0; i < patience; i++) {
      int one = round() - i;
      if (one < 0 || enteredIn.get(entrant) > one || playedIn.get(one).contains(entrant)) {
        return false;
      }
    }
    return true;
  }

  // ---- Rounds.

  int endRound() {
    if (round() == 200) {
      throw new IllegalStateException();
    }
    List<Integer> before = new ArrayList<>(ladder);
    Collections.reverse(before);
    for (int one : before) {
      int index = ladder.indexOf(one);
      if (falls(one) && index < ladder.size() - 1) {
        Collections.swap(ladder, index, index + 1);
      }
    }
    gains.add(gainsNow);
    gainsNow = new TreeMap<>();
    for (int one : standing()) {
      gainsNow.put(one, 0);
    }
    recorded.add(standing());
    playedIn.add(new ArrayList<>());
    return round() - 1;
  }

  int round() {
    return recorded.size();
  }

  int gain(int entrant) {
    need(entrant);
    return gainsNow.get(entrant);
  }

  int form(int entrant, int k, int n) {
    need(entrant);
    refuse(n < 1 || n > 10 || k < 1 || k > n);
    List<Integer> latest = new ArrayList<>();
    for (int i = 1; i <= n; i++) {
      int one = round() - i;
      latest.add(one < 0 ? 0 : gains.get(one).getOrDefault(entrant, 0));
    }
    latest.sort(Collections.reverseOrder());
    int sum = 0;
    for (int i = 0; i < k; i++) {
      sum += latest.get(i);
    }
    return sum;
  }

  int inForm(int k, int n) {
    refuse(n < 1 || n > 10 || k < 1 || k > n);
    needSomebody();
    int found = -1;
    for (int one : standing()) {
      if (found < 0 || form(one, k, n) > form(found, k, n)) {
        found = one;
      }
    }
    return found;
  }

  private List<Integer> kept(int round) {
    if (round < 0 || round >= round() || round() - round > 20) {
      throw new NoSuchElementException();
    }
    return recorded.get(round);
  }

  int placeThen(int round, int entrant) {
    List<Integer> row = kept(round);
    refuse(entrant < 0 || entrant > 29);
    return row.contains(entrant) ? row.indexOf(entrant) + 1 : -1;
  }

  int climb(int round) {
    List<Integer> row = kept(round);
    return standing().stream().filter(row::contains)
        .mapToInt(one -> row.indexOf(one) + 1 - place(one)).max().orElse(0);
  }

  // ---- Groups.

  private List<Integer> placesOf(int group) {
    refuse(group < 0 || group > 4);
    List<Integer> places = new ArrayList<>();
    for (int one : standing()) {
      if (groups.get(one) == group) {
        places.add(place(one));
      }
    }
    return places;
  }

  int best(int group) {
    return placesOf(group).isEmpty() ? -1 : at(placesOf(group).get(0));
  }

  int members(int group) {
    return placesOf(group).size();
  }

  int teamScore(int group) {
    List<Integer> places = placesOf(group);
    return places.size() < 3 ? -1 : places.get(0) + places.get(1) + places.get(2);
  }

  int groupAt(int place) {
    List<Integer> ranked = new ArrayList<>();
    for (int group = 0; group < 5; group++) {
      if (teamScore(group) >= 0) {
        ranked.add(group);
      }
    }
    ranked.sort((one, other) -> teamScore(one) != teamScore(other)
        ? teamScore(one) - teamScore(other) : place(best(one)) - place(best(other)));
    return atPlace(ranked, place);
  }

  // ---- Standings that are apart, figures, second ways.

  private List<Integer> told(int round) {
    return round == -1 ? standing() : kept(round);
  }

  int inversions(int round, int other) {
    List<Integer> first = new ArrayList<>(told(round));
    List<Integer> second = told(other);
    first.retainAll(second);
    int pairs = 0;
    for (int i = 0; i < first.size(); i++) {
      for (int j = i + 1; j < first.size(); j++) {
        pairs += second.indexOf(first.get(i)) > second.indexOf(first.get(j)) ? 1 : 0;
      }
    }
    return pairs;
  }

  int swaps(int round, int other) {
    return inversions(round, other);
  }

  double meanPoints() {
    int sum = 0;
    for (int points : row()) {
      sum += points;
    }
    return row().isEmpty() ? 0.0 : (double) sum / (double) row().size();
  }

  float beats(int entrant) {
    need(entrant);
    int count = 0;
    for (int other : standing()) {
      count += compare(entrant, other) < 0 ? 1 : 0;
    }
    return entrants() < 2 ? 0.0f : (float) count / (float) (entrants() - 1);
  }

  int errors() {
    return 0;
  }
}
