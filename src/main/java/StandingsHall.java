import java.util.ArrayList;
import java.util.Arrays;
import java.util.NoSuchElementException;

/**
 * A hall of standings: entrants with scores of four kinds, kept in order by rules that are told as
 * a text. What each call does is told by the document, promises 1 to 51.
 */
public final class StandingsHall {
  public static final int NONE = -1;

  private static final int MOST_ENTRANTS = 30;
  private static final int GROUPS = 5;
  private static final int KINDS = 4;
  private static final int POINTS = 0;
  private static final int SCORE_BOUND = 100000;
  private static final int MOST_CRITERIA = 4;
  private static final int MOST_TERMS = 4;
  private static final int MOST_BYTES = 100;
  private static final int MOST_DIGITS = 3;
  private static final int MOST_NEEDED = 1000;
  private static final int MOST_HALVINGS = 10;
  private static final int MOST_PARTS = 100;
  private static final int MOST_ROUNDS = 200;
  private static final int MOST_REACH = 5;
  private static final int MOST_PATIENCE = 9;
  private static final int FORM_ROUNDS = 10;
  private static final int KEPT_ROUNDS = 20;
  private static final int TEAM = 3;

  private final Tape tape;
  private final OrderReader reader;
  private Order order;
  private Order draft;
  private int errorPosition;
  private final ArrayList<Entrant> come;
  private final Standing standing;
  private final PointsRow pointsRow;
  private final Ladder ladder;
  private int over;
  private final Entrant trial;
  private final int[] latest;
  private final int[] slots;

  public StandingsHall() {
    tape = new Tape();
    reader = new OrderReader(tape);
    order = new Order();
    draft = new Order();
    order.begin(0, 1);
    order.addTerm(0, POINTS, 1);
    errorPosition = NONE;
    come = new ArrayList<Entrant>();
    standing = new Standing();
    pointsRow = new PointsRow();
    ladder = new Ladder();
    trial = new Entrant(NONE, 0);
    latest = new int[FORM_ROUNDS];
    slots = new int[MOST_ENTRANTS];
  }

  // ---- The tape, the order.

  public int append(int a, int b, int c, int d, int e) throws IllegalStateException {
    int more = tape.bytesIn(a) + tape.bytesIn(b) + tape.bytesIn(c) + tape.bytesIn(d)
        + tape.bytesIn(e);
    if (tape.length + more > MOST_BYTES) {
      throw new IllegalStateException("the tape is full");
    }
    tape.addWord(a);
    tape.addWord(b);
    tape.addWord(c);
    tape.addWord(d);
    tape.addWord(e);
    return tape.length;
  }

  public int clearTape() {
    int before = tape.length;
    tape.length = 0;
    return before;
  }

  public int setOrder() throws IllegalArgumentException {
    errorPosition = reader.readOrder(draft) ? NONE : reader.start;
    tape.length = 0;
    if (errorPosition != NONE) {
      throw new IllegalArgumentException("the text has an error");
    }
    Order told = draft;
    draft = order;
    order = told;
    makeStandingAnew();
    return order.count;
  }

  public int errorPosition() {
    return errorPosition;
  }

  public int criterion(int entrant, int criterion)
      throws IndexOutOfBoundsException, IllegalArgumentException {
    Entrant one = presentOne(entrant);
    if (criterion < 0 || criterion >= order.count) {
      throw new IllegalArgumentException("there is no such criterion");
    }
    return order.valueFor(one, criterion);
  }

  // ---- Entrants.

  public int come(int group) throws IllegalArgumentException, IllegalStateException {
    checkGroup(group);
    int number = come.size();
    if (number >= MOST_ENTRANTS) {
      throw new IllegalStateException("no more can come");
    }
    Entrant one = new Entrant(number, group);
    come.add(one);
    order.judge(one);
    standing.put(one);
    pointsRow.put(one);
    return number;
  }

  public int leave(int entrant) throws IndexOutOfBoundsException {
    Entrant one = presentOne(entrant);
    int had = one.place;
    standing.take(one);
    pointsRow.take(one);
    ladder.take(one);
    one.isThere = false;
    one.place = NONE;
    return had;
  }

  public int score(int entrant, int kind, int more)
      throws IndexOutOfBoundsException, IllegalArgumentException {
    Entrant one = presentOne(entrant);
    int value = raisedScore(one, kind, more);
    changeScore(one, kind, value);
    return value;
  }

  public int setScore(int entrant, int kind, int value)
      throws IndexOutOfBoundsException, IllegalArgumentException {
    Entrant one = presentOne(entrant);
    checkKind(kind);
    checkScore(value);
    int before = one.scoreIn(kind);
    changeScore(one, kind, value);
    return before;
  }

  public int scoreOf(int entrant, int kind)
      throws IndexOutOfBoundsException, IllegalArgumentException {
    Entrant one = presentOne(entrant);
    checkKind(kind);
    return one.scoreIn(kind);
  }

  public int groupOf(int entrant) throws IndexOutOfBoundsException {
    return presentOne(entrant).group;
  }

  public int entrants() {
    return standing.row.size();
  }

  // ---- The standing.

  public int at(int place) throws IndexOutOfBoundsException {
    if (place < 1 || place > standing.row.size()) {
      throw new IndexOutOfBoundsException("there is no such place");
    }
    return standing.row.get(place - 1).number;
  }

  public int place(int entrant) throws IndexOutOfBoundsException {
    return presentOne(entrant).place;
  }

  public int rank(int entrant, int sort)
      throws IndexOutOfBoundsException, IllegalArgumentException {
    Entrant one = presentOne(entrant);
    if (sort < 0 || sort > 2) {
      throw new IllegalArgumentException("there is no such sort of rank");
    }
    if (sort == 0) {
      return standing.sharedRank(one);
    }
    return sort == 1 ? standing.denseRank(one) : standing.twiceMeanRank(one);
  }

  public int alike(int entrant) throws IndexOutOfBoundsException {
    return standing.countAlike(presentOne(entrant));
  }

  public int results() {
    return standing.countResults();
  }

  public int rankSum() {
    int sum = 0;
    for (int i = 0; i < standing.row.size(); i++) {
      sum += standing.twiceMeanRank(standing.row.get(i));
    }
    return sum;
  }

  public int wouldGain(int entrant, int kind, int more)
      throws IndexOutOfBoundsException, IllegalArgumentException {
    Entrant one = presentOne(entrant);
    int value = raisedScore(one, kind, more);
    tryWith(one, kind, value);
    return one.place - (standing.countAhead(trial) + 1);
  }

  public int needed(int entrant, int rank)
      throws IndexOutOfBoundsException, IllegalArgumentException {
    Entrant one = presentOne(entrant);
    if (rank < 1 || rank > MOST_ENTRANTS) {
      throw new IllegalArgumentException("there is no such rank");
    }
    int high = Math.min(MOST_NEEDED, SCORE_BOUND - one.points());
    if (rankWith(one, 0) <= rank) {
      return 0;
    }
    if (rankWith(one, high) > rank) {
      return NONE;
    }
    return leastNeeded(one, rank, high);
  }

  // ---- Points.

  public int above(int points) {
    return pointsRow.row.size() - pointsRow.countUpTo(points);
  }

  public int with(int points) {
    return pointsRow.countUpTo(points) - pointsRow.countBelow(points);
  }

  public int withAt(int points, int index) {
    int first = pointsRow.countBelow(points);
    int after = pointsRow.countUpTo(points);
    if (index < 0 || index >= after - first) {
      return NONE;
    }
    return pointsRow.row.get(first + index).number;
  }

  public int next(int points) throws NoSuchElementException {
    int after = pointsRow.countUpTo(points);
    if (after >= pointsRow.row.size()) {
      throw new NoSuchElementException("nobody has more points");
    }
    return pointsRow.row.get(after).points();
  }

  public int between(int from, int to) throws IllegalArgumentException {
    if (from > to) {
      throw new IllegalArgumentException("from is greater than to");
    }
    return pointsRow.countBelow(to) - pointsRow.countBelow(from);
  }

  public int median(boolean isHigh) throws NoSuchElementException {
    checkSomebodyIsThere();
    return pointsRow.pointsAt(medianPlace(isHigh));
  }

  public int quantile(int p, int q) throws IllegalArgumentException, NoSuchElementException {
    if (q < 1 || q > MOST_PARTS || p < 0 || p > q) {
      throw new IllegalArgumentException("p or q is out of range");
    }
    checkSomebodyIsThere();
    int roundedUp = (pointsRow.row.size() * p + q - 1) / q;
    return pointsRow.pointsAt(Math.max(1, roundedUp));
  }

  // ---- The ladder.

  public int enter(int entrant) throws IndexOutOfBoundsException, IllegalStateException {
    Entrant one = presentOne(entrant);
    if (ladder.placeIn(one) != NONE) {
      throw new IllegalStateException("it is in the ladder already");
    }
    ladder.put(one, over);
    return ladder.row.size();
  }

  public int challenge(int challenger, int other, boolean wins)
      throws IndexOutOfBoundsException, IllegalStateException {
    Entrant lower = presentOne(challenger);
    Entrant upper = presentOne(other);
    int from = ladder.placeIn(lower);
    int to = ladder.placeIn(upper);
    if (from == NONE || to == NONE || to >= from || from - to > ladder.reach) {
      throw new IllegalStateException("this challenge is not allowed");
    }
    lower.played = over;
    upper.played = over;
    if (!wins) {
      return from;
    }
    ladder.raise(from, to);
    return to;
  }

  public int mayChallenge(int entrant) throws IndexOutOfBoundsException {
    int from = ladder.placeIn(presentOne(entrant));
    return from == NONE ? 0 : Math.min(ladder.reach, from - 1);
  }

  public int setReach(int reach) throws IllegalArgumentException {
    if (reach < 1 || reach > MOST_REACH) {
      throw new IllegalArgumentException("the reach is out of range");
    }
    int before = ladder.reach;
    ladder.reach = reach;
    return before;
  }

  public int setPatience(int rounds) throws IllegalArgumentException {
    if (rounds < 1 || rounds > MOST_PATIENCE) {
      throw new IllegalArgumentException("the patience is out of range");
    }
    int before = ladder.patience;
    ladder.patience = rounds;
    return before;
  }

  public int ladderAt(int place) throws IndexOutOfBoundsException {
    if (place < 1 || place > ladder.row.size()) {
      throw new IndexOutOfBoundsException("there is no such place");
    }
    return ladder.row.get(place - 1).number;
  }

  public int ladderPlace(int entrant) throws IndexOutOfBoundsException {
    return ladder.placeIn(presentOne(entrant));
  }

  // ---- Rounds.

  public int endRound() throws IllegalStateException {
    if (over >= MOST_ROUNDS) {
      throw new IllegalStateException("all rounds are over");
    }
    ladder.letFall(over);
    for (int i = 0; i < come.size(); i++) {
      come.get(i).keepRound(over);
    }
    over++;
    return over - 1;
  }

  public int round() {
    return over;
  }

  public int gain(int entrant) throws IndexOutOfBoundsException {
    return presentOne(entrant).gained;
  }

  public int form(int entrant, int k, int n)
      throws IndexOutOfBoundsException, IllegalArgumentException {
    Entrant one = presentOne(entrant);
    checkForm(k, n);
    return formBy(one, k, n);
  }

  public int inForm(int k, int n) throws IllegalArgumentException, NoSuchElementException {
    checkForm(k, n);
    checkSomebodyIsThere();
    int found = NONE;
    int greatest = 0;
    for (int i = 0; i < standing.row.size(); i++) {
      Entrant one = standing.row.get(i);
      int sum = formBy(one, k, n);
      if (found == NONE || sum > greatest) {
        found = one.number;
        greatest = sum;
      }
    }
    return found;
  }

  public int placeThen(int round, int entrant)
      throws NoSuchElementException, IllegalArgumentException {
    checkKept(round);
    if (entrant < 0 || entrant >= MOST_ENTRANTS) {
      throw new IllegalArgumentException("there is no such entrant");
    }
    return entrant < come.size() ? come.get(entrant).placeIn(round) : NONE;
  }

  public int climb(int round) throws NoSuchElementException {
    checkKept(round);
    boolean isFound = false;
    int greatest = 0;
    for (int i = 0; i < standing.row.size(); i++) {
      Entrant one = standing.row.get(i);
      int then = one.placeIn(round);
      if (then != NONE && (!isFound || then - one.place > greatest)) {
        isFound = true;
        greatest = then - one.place;
      }
    }
    return greatest;
  }

  // ---- Groups.

  public int best(int group) throws IllegalArgumentException {
    checkGroup(group);
    int first = standing.firstPlaceOf(group);
    return first >= 1 && first <= standing.row.size()
        ? standing.row.get(first - 1).number : NONE;
  }

  public int members(int group) throws IllegalArgumentException {
    checkGroup(group);
    return standing.countOf(group);
  }

  public int teamScore(int group) throws IllegalArgumentException {
    checkGroup(group);
    return standing.teamSum(group);
  }

  public int groupAt(int place) throws IndexOutOfBoundsException {
    int found = groupRankedAt(place);
    if (found == NONE) {
      throw new IndexOutOfBoundsException("there is no such place");
    }
    return found;
  }

  // ---- Standings that are apart, figures, second ways.

  public int inversions(int round, int other) throws NoSuchElementException {
    checkTold(round);
    checkTold(other);
    int count = lineUp(round, other);
    int pairs = 0;
    for (int i = 0; i < count && i < MOST_ENTRANTS; i++) {
      for (int j = i + 1; j < count && j < MOST_ENTRANTS; j++) {
        pairs += slots[i] > slots[j] ? 1 : 0;
      }
    }
    return pairs;
  }

  public int swaps(int round, int other) throws NoSuchElementException {
    checkTold(round);
    checkTold(other);
    int count = lineUp(round, other);
    int made = 0;
    for (int pass = 0; pass < count; pass++) {
      made += swapNeighbours(count);
    }
    return made;
  }

  public double meanPoints() {
    int count = standing.row.size();
    if (count == 0) {
      return 0.0;
    }
    int sum = 0;
    for (int i = 0; i < count; i++) {
      sum += standing.row.get(i).points();
    }
    return (double) sum / (double) count;
  }

  public float beats(int entrant) throws IndexOutOfBoundsException {
    Entrant one = presentOne(entrant);
    int others = standing.row.size() - 1;
    if (others < 1) {
      return 0.0f;
    }
    return (float) standing.countWorse(one) / (float) others;
  }

  public int errors() {
    return wrongPlaces() + wrongPoints() + wrongMedian(false) + wrongMedian(true);
  }

  // ---- What the calls refuse.

  private Entrant presentOne(int number) {
    if (number < 0 || number >= come.size() || !come.get(number).isThere) {
      throw new IndexOutOfBoundsException("this entrant is not there");
    }
    return come.get(number);
  }

  private void checkGroup(int group) {
    if (group < 0 || group >= GROUPS) {
      throw new IllegalArgumentException("there is no such group");
    }
  }

  private void checkKind(int kind) {
    if (kind < 0 || kind >= KINDS) {
      throw new IllegalArgumentException("there is no such kind");
    }
  }

  private void checkScore(long value) {
    if (value < -SCORE_BOUND || value > SCORE_BOUND) {
      throw new IllegalArgumentException("the score is out of range");
    }
  }

  private void checkSomebodyIsThere() {
    if (standing.row.isEmpty()) {
      throw new NoSuchElementException("nobody is there");
    }
  }

  private void checkForm(int k, int n) {
    if (n < 1 || n > FORM_ROUNDS || k < 1 || k > n) {
      throw new IllegalArgumentException("k or n is out of range");
    }
  }

  private void checkKept(int round) {
    if (round < 0 || round >= over || round < over - KEPT_ROUNDS) {
      throw new NoSuchElementException("no standing of this round is kept");
    }
  }

  private void checkTold(int round) {
    if (round != NONE) {
      checkKept(round);
    }
  }

  // ---- Scores and trials.

  private int raisedScore(Entrant one, int kind, int more) {
    checkKind(kind);
    long value = (long) one.scoreIn(kind) + (long) more;
    checkScore(value);
    return (int) value;
  }

  private void changeScore(Entrant one, int kind, int value) {
    standing.take(one);
    if (kind == POINTS && value != one.points()) {
      pointsRow.take(one);
      one.gained += value - one.points();
      one.putScore(kind, value);
      pointsRow.put(one);
    } else {
      one.putScore(kind, value);
    }
    order.judge(one);
    standing.put(one);
  }

  private void makeStandingAnew() {
    standing.row.clear();
    for (int i = 0; i < come.size(); i++) {
      Entrant one = come.get(i);
      if (one.isThere) {
        order.judge(one);
        standing.put(one);
      }
    }
  }

  private void tryWith(Entrant one, int kind, int value) {
    trial.number = one.number;
    for (int i = 0; i < KINDS; i++) {
      trial.putScore(i, one.scoreIn(i));
    }
    trial.putScore(kind, value);
    order.judge(trial);
  }

  private int rankWith(Entrant one, int more) {
    tryWith(one, POINTS, one.points() + more);
    return standing.sharedRank(trial);
  }

  // All entrants are valued alike, so the first criterion that depends on the points turns each
  // comparison at most once: the rank is monotone in the points, and halving finds the least.
  private int leastNeeded(Entrant one, int rank, int enough) {
    int low = 0;
    int high = enough;
    for (int i = 0; i < MOST_HALVINGS && high - low > 1; i++) {
      int middle = low + (high - low) / 2;
      if (rankWith(one, middle) <= rank) {
        high = middle;
      } else {
        low = middle;
      }
    }
    return high;
  }

  // ---- Quantiles, forms, groups.

  private int medianPlace(boolean isHigh) {
    int count = pointsRow.row.size();
    return isHigh ? count / 2 + 1 : (count + 1) / 2;
  }

  private int formBy(Entrant one, int k, int n) {
    int rounds = Math.min(n, FORM_ROUNDS);
    for (int i = 0; i < rounds; i++) {
      latest[i] = one.gainIn(over - 1 - i);
    }
    int sum = 0;
    for (int i = 0; i < k && i < rounds; i++) {
      int greatest = i;
      for (int j = i + 1; j < rounds; j++) {
        if (latest[j] > latest[greatest]) {
          greatest = j;
        }
      }
      sum += latest[greatest];
      latest[greatest] = latest[i];
    }
    return sum;
  }

  private int groupRankedAt(int place) {
    for (int group = 0; group < GROUPS; group++) {
      if (standing.teamSum(group) != NONE && countGroupsAhead(group) + 1 == place) {
        return group;
      }
    }
    return NONE;
  }

  private int countGroupsAhead(int group) {
    int sum = standing.teamSum(group);
    int first = standing.firstPlaceOf(group);
    int ahead = 0;
    for (int other = 0; other < GROUPS; other++) {
      int otherSum = standing.teamSum(other);
      if (otherSum != NONE && (otherSum < sum
          || otherSum == sum && standing.firstPlaceOf(other) < first)) {
        ahead++;
      }
    }
    return ahead;
  }

  // ---- Standings that are apart.

  /** Puts the places of the other standing into slots, in the order of the first; counts them. */
  private int lineUp(int round, int other) {
    Arrays.fill(slots, NONE);
    for (int i = 0; i < come.size(); i++) {
      Entrant one = come.get(i);
      int first = placeAt(one, round);
      int second = placeAt(one, other);
      if (first >= 1 && first <= MOST_ENTRANTS && second != NONE) {
        slots[first - 1] = second;
      }
    }
    int count = 0;
    for (int i = 0; i < MOST_ENTRANTS; i++) {
      if (slots[i] != NONE && count <= i) {
        slots[count] = slots[i];
        count++;
      }
    }
    return count;
  }

  private int placeAt(Entrant one, int round) {
    return round == NONE ? one.place : one.placeIn(round);
  }

  private int swapNeighbours(int count) {
    int made = 0;
    for (int i = 0; i + 1 < count && i + 1 < MOST_ENTRANTS; i++) {
      if (slots[i] > slots[i + 1]) {
        int upper = slots[i];
        slots[i] = slots[i + 1];
        slots[i + 1] = upper;
        made++;
      }
    }
    return made;
  }

  // ---- Second ways: what is kept, told again from the scores alone.

  private int wrongPlaces() {
    int wrong = 0;
    for (int i = 0; i < come.size(); i++) {
      Entrant one = come.get(i);
      if (one.isThere) {
        tryWith(one, POINTS, one.points());
        wrong += one.place == standing.countAhead(trial) + 1 ? 0 : 1;
      }
    }
    return wrong;
  }

  private int wrongPoints() {
    int wrong = 0;
    for (int i = 0; i < come.size(); i++) {
      Entrant one = come.get(i);
      if (one.isThere && isFirstWithItsPoints(one)) {
        wrong += countPresentUpTo(one.points()) == pointsRow.countUpTo(one.points())
            && countPresentUpTo(one.points() - 1) == pointsRow.countBelow(one.points()) ? 0 : 1;
      }
    }
    return wrong;
  }

  private boolean isFirstWithItsPoints(Entrant one) {
    for (int i = 0; i < one.number && i < come.size(); i++) {
      if (come.get(i).isThere && come.get(i).points() == one.points()) {
        return false;
      }
    }
    return true;
  }

  private int countPresentUpTo(int points) {
    int count = 0;
    for (int i = 0; i < come.size(); i++) {
      count += come.get(i).isThere && come.get(i).points() <= points ? 1 : 0;
    }
    return count;
  }

  private int wrongMedian(boolean isHigh) {
    if (standing.row.isEmpty()) {
      return 0;
    }
    int place = medianPlace(isHigh);
    int points = pointsRow.pointsAt(place);
    return countPresentUpTo(points) >= place && countPresentUpTo(points - 1) < place ? 0 : 1;
  }

  // ---- The classes inside.

  /** The bytes that append() has put, none of them 0. */
  private static final class Tape {
    private final int[] bytes = new int[MOST_BYTES];
    private int length;

    private int bytesIn(int word) {
      int count = 0;
      for (int shift = 24; shift >= 0; shift -= 8) {
        count += (word >>> shift & 255) != 0 ? 1 : 0;
      }
      return count;
    }

    private void addWord(int word) {
      for (int shift = 24; shift >= 0; shift -= 8) {
        int one = word >>> shift & 255;
        if (one != 0 && length >= 0 && length < MOST_BYTES) {
          bytes[length] = one;
          length++;
        }
      }
    }

    /** The byte at an index; 0, which no tape has, where there is none. */
    private int byteAt(int index) {
      return index >= 0 && index < length && index < MOST_BYTES ? bytes[index] : 0;
    }
  }

  /** Criteria, each with a factor for every kind of score. */
  private static final class Order {
    private final int[] factors = new int[MOST_CRITERIA * KINDS];
    private final int[] signs = new int[MOST_CRITERIA];
    private int count;

    private void empty() {
      Arrays.fill(factors, 0);
      Arrays.fill(signs, 0);
      count = 0;
    }

    private void begin(int criterion, int sign) {
      if (isCriterion(criterion)) {
        signs[criterion] = sign;
        count = criterion + 1;
      }
    }

    private void addTerm(int criterion, int kind, int factor) {
      if (isCriterion(criterion) && kind >= 0 && kind < KINDS) {
        factors[criterion * KINDS + kind] += factor;
      }
    }

    private boolean isCriterion(int criterion) {
      return criterion >= 0 && criterion < MOST_CRITERIA;
    }

    private int valueFor(Entrant one, int criterion) {
      int sum = 0;
      for (int kind = 0; kind < KINDS && isCriterion(criterion); kind++) {
        sum += factors[criterion * KINDS + kind] * one.scoreIn(kind);
      }
      return sum;
    }

    /** Sets the merits of an entrant: the greater one is the better one in each criterion. */
    private void judge(Entrant one) {
      for (int criterion = 0; criterion < MOST_CRITERIA; criterion++) {
        one.merits[criterion] = signs[criterion] * valueFor(one, criterion);
      }
    }
  }

  /** Reads an order from the tape, by the grammar of section 2 of the document. */
  private static final class OrderReader {
    private static final int END = 256;
    private static final int NUMBER = 257;
    private static final int KIND = 258;
    private static final int NO_TOKEN = 259;

    private final Tape tape;
    private int token;
    private int start;
    private int after;
    private int number;
    private int kind;

    private OrderReader(Tape tape) {
      this.tape = tape;
    }

    // Wherever reading stops, the token that does not fit is the present one; so also the one
    // that begins a criterion or a term too many. So the error position is its start.
    private boolean readOrder(Order told) {
      told.empty();
      after = 0;
      readToken();
      for (int i = 0; i < MOST_CRITERIA; i++) {
        if (!readCriterion(told, i)) {
          return false;
        }
        if (token != ';') {
          return token == END;
        }
        readToken();
      }
      return false;
    }

    private boolean readCriterion(Order told, int criterion) {
      if (token != '>' && token != '<') {
        return false;
      }
      told.begin(criterion, token == '>' ? 1 : -1);
      readToken();
      int sign = 1;
      for (int i = 0; i < MOST_TERMS; i++) {
        if (!readTerm(told, criterion, sign)) {
          return false;
        }
        if (token != '+' && token != '-') {
          return true;
        }
        sign = token == '+' ? 1 : -1;
        readToken();
      }
      return false;
    }

    private boolean readTerm(Order told, int criterion, int sign) {
      int factor = sign;
      if (token == NUMBER) {
        factor = sign * number;
        readToken();
        if (token != '*') {
          return false;
        }
        readToken();
      }
      if (token != KIND) {
        return false;
      }
      told.addTerm(criterion, kind, factor);
      readToken();
      return true;
    }

    private void readToken() {
      start = after;
      for (int i = 0; i < MOST_BYTES && isBlank(tape.byteAt(start)); i++) {
        start++;
      }
      int first = tape.byteAt(start);
      after = start;
      if (first == 0) {
        token = END;
      } else if (isDigit(first)) {
        readDigits();
      } else {
        readSign(first);
      }
    }

    private void readSign(int sign) {
      after = start + 1;
      if (sign >= 'a' && sign <= 'd') {
        token = KIND;
        kind = sign - 'a';
      } else {
        token = isSign(sign) ? sign : NO_TOKEN;
      }
    }

    private void readDigits() {
      number = 0;
      for (int i = 0; i < MOST_BYTES && isDigit(tape.byteAt(after)); i++) {
        number = number * 10 + tape.byteAt(after) - '0';
        after++;
      }
      token = after - start <= MOST_DIGITS ? NUMBER : NO_TOKEN;
    }

    private boolean isSign(int one) {
      return one == '>' || one == '<' || one == '+' || one == '-' || one == '*' || one == ';';
    }

    private boolean isBlank(int one) {
      return one == 32 || one == 10;
    }

    private boolean isDigit(int one) {
      return one >= '0' && one <= '9';
    }
  }

  /** One entrant, with its scores and with what the rounds that are over have recorded for it. */
  private static final class Entrant {
    private int number;
    private final int group;
    private boolean isThere;
    private final int[] scores = new int[KINDS];
    private final int[] merits = new int[MOST_CRITERIA];
    private int place;
    private int gained;
    private final int[] gains = new int[FORM_ROUNDS];
    private final int[] places = new int[KEPT_ROUNDS];
    private int entered;
    private int played;

    private Entrant(int number, int group) {
      this.number = number;
      this.group = group;
      isThere = true;
      place = NONE;
      Arrays.fill(places, NONE);
      entered = NONE;
      played = NONE;
    }

    private int points() {
      return scores[POINTS];
    }

    private int scoreIn(int kind) {
      return kind >= 0 && kind < KINDS ? scores[kind] : 0;
    }

    private void putScore(int kind, int value) {
      if (kind >= 0 && kind < KINDS) {
        scores[kind] = value;
      }
    }

    private boolean isBetterThan(Entrant other) {
      for (int i = 0; i < MOST_CRITERIA; i++) {
        if (merits[i] != other.merits[i]) {
          return merits[i] > other.merits[i];
        }
      }
      return false;
    }

    private boolean isAlikeWith(Entrant other) {
      return !isBetterThan(other) && !other.isBetterThan(this);
    }

    private boolean isAheadOf(Entrant other) {
      return isBetterThan(other) || number < other.number && !other.isBetterThan(this);
    }

    private void keepRound(int round) {
      gains[Math.floorMod(round, FORM_ROUNDS)] = isThere ? gained : 0;
      places[Math.floorMod(round, KEPT_ROUNDS)] = isThere ? place : NONE;
      gained = 0;
    }

    private int gainIn(int round) {
      return round < 0 ? 0 : gains[Math.floorMod(round, FORM_ROUNDS)];
    }

    private int placeIn(int round) {
      return round < 0 ? NONE : places[Math.floorMod(round, KEPT_ROUNDS)];
    }
  }

  /** All that are there, the better ones first, alike ones by number. */
  private static final class Standing {
    private final ArrayList<Entrant> row = new ArrayList<Entrant>();

    private void put(Entrant one) {
      int index = 0;
      for (int i = 0; i < row.size() && row.get(i).isAheadOf(one); i++) {
        index = i + 1;
      }
      row.add(index, one);
      numberPlaces();
    }

    private void take(Entrant one) {
      int index = one.place - 1;
      if (index >= 0 && index < row.size()) {
        row.remove(index);
      }
      numberPlaces();
    }

    private void numberPlaces() {
      for (int i = 0; i < row.size(); i++) {
        row.get(i).place = i + 1;
      }
    }

    // A trial bears the number of the entrant that it stands for, which is left out then.
    private int sharedRank(Entrant one) {
      int better = 0;
      for (int i = 0; i < row.size(); i++) {
        Entrant other = row.get(i);
        better += other.number != one.number && other.isBetterThan(one) ? 1 : 0;
      }
      return better + 1;
    }

    private int countAhead(Entrant one) {
      int ahead = 0;
      for (int i = 0; i < row.size(); i++) {
        Entrant other = row.get(i);
        ahead += other.number != one.number && other.isAheadOf(one) ? 1 : 0;
      }
      return ahead;
    }

    private int denseRank(Entrant one) {
      int better = 0;
      for (int i = 0; i < row.size() && row.get(i).isBetterThan(one); i++) {
        better += beginsResult(i) ? 1 : 0;
      }
      return better + 1;
    }

    // Alike ones have the places from the shared rank on.
    private int twiceMeanRank(Entrant one) {
      return 2 * sharedRank(one) + countAlike(one) - 1;
    }

    private int countAlike(Entrant one) {
      int count = 0;
      for (int i = 0; i < row.size(); i++) {
        count += row.get(i).isAlikeWith(one) ? 1 : 0;
      }
      return count;
    }

    private int countWorse(Entrant one) {
      int count = 0;
      for (int i = 0; i < row.size(); i++) {
        count += one.isBetterThan(row.get(i)) ? 1 : 0;
      }
      return count;
    }

    private int countResults() {
      int count = 0;
      for (int i = 0; i < row.size(); i++) {
        count += beginsResult(i) ? 1 : 0;
      }
      return count;
    }

    private boolean beginsResult(int index) {
      if (index < 1 || index >= row.size()) {
        return index == 0;
      }
      return !row.get(index).isAlikeWith(row.get(index - 1));
    }

    private int firstPlaceOf(int group) {
      for (int i = 0; i < row.size(); i++) {
        if (row.get(i).group == group) {
          return i + 1;
        }
      }
      return NONE;
    }

    private int countOf(int group) {
      int count = 0;
      for (int i = 0; i < row.size(); i++) {
        count += row.get(i).group == group ? 1 : 0;
      }
      return count;
    }

    private int teamSum(int group) {
      int count = 0;
      int sum = 0;
      for (int i = 0; i < row.size() && count < TEAM; i++) {
        if (row.get(i).group == group) {
          count++;
          sum += i + 1;
        }
      }
      return count == TEAM ? sum : NONE;
    }
  }

  /** All that are there, by ascending points; those with the same points as they came to them. */
  private static final class PointsRow {
    private final ArrayList<Entrant> row = new ArrayList<Entrant>();

    private void put(Entrant one) {
      row.add(countUpTo(one.points()), one);
    }

    private void take(Entrant one) {
      for (int i = 0; i < row.size(); i++) {
        if (row.get(i) == one) {
          row.remove(i);
          return;
        }
      }
    }

    private int countBelow(int points) {
      int count = 0;
      for (int i = 0; i < row.size() && row.get(i).points() < points; i++) {
        count++;
      }
      return count;
    }

    private int countUpTo(int points) {
      int count = 0;
      for (int i = 0; i < row.size() && row.get(i).points() <= points; i++) {
        count++;
      }
      return count;
    }

    private int pointsAt(int place) {
      return place >= 1 && place <= row.size() ? row.get(place - 1).points() : 0;
    }
  }

  /** Those that have entered the ladder, the highest one first. */
  private static final class Ladder {
    private final ArrayList<Entrant> row = new ArrayList<Entrant>();
    private int reach = 2;
    private int patience = 3;

    private void put(Entrant one, int round) {
      one.entered = round;
      row.add(one);
    }

    private void take(Entrant one) {
      int index = placeIn(one) - 1;
      if (index >= 0 && index < row.size()) {
        row.remove(index);
      }
    }

    private int placeIn(Entrant one) {
      for (int i = 0; i < row.size(); i++) {
        if (row.get(i) == one) {
          return i + 1;
        }
      }
      return NONE;
    }

    private void raise(int from, int to) {
      if (to >= 1 && to < from && from <= row.size()) {
        Entrant one = row.get(from - 1);
        row.remove(from - 1);
        row.add(to - 1, one);
      }
    }

    // From the lowest one up; who falls changes places with one that was looked at already, so
    // each one is looked at once. The lowest one can't fall.
    private void letFall(int round) {
      int first = round - patience + 1;
      for (int i = row.size() - 2; i >= 0 && i + 1 < row.size(); i--) {
        Entrant one = row.get(i);
        if (one.entered <= first && one.played < first) {
          row.set(i, row.get(i + 1));
          row.set(i + 1, one);
        }
      }
    }
  }
}
