import java.util.Random;

/** Runs of calls by a seeded random row, each answer held against the document told once more. */
public final class RandomRunsTest {
  private static final int RUNS = 3000;
  private static final int CALLS = 512;
  private static final int METHODS = 50;
  private static final int[] EDGES = {Integer.MIN_VALUE, Integer.MIN_VALUE + 1, -100001, -100000,
      -1001, -31, -2, -1, 0, 1, 2, 3, 5, 9, 29, 30, 31, 100, 101, 999, 1000, 1001, 99999, 100000,
      100001, 200000, Integer.MAX_VALUE - 1, Integer.MAX_VALUE};
  private static final Checks CHECKS = new Checks();

  private final Random random;
  private final int[] weights = new int[METHODS];
  private final int spread;
  private final boolean isTidy;
  private final StandingsHall hall = new StandingsHall();
  private final ReferenceHall reference = new ReferenceHall();
  private final StringBuilder log = new StringBuilder();

  private RandomRunsTest(int seed) {
    random = new Random(seed);
    int[] spreads = {1, 3, 10, 300, 2000, 100000};
    spread = spreads[random.nextInt(spreads.length)];
    isTidy = random.nextInt(4) > 0;
    for (int i = 0; i < METHODS; i++) {
      weights[i] = 1 + random.nextInt(4);
    }
    weights[random.nextInt(METHODS)] = 40;
    weights[random.nextInt(METHODS)] = 20;
    int[] often = {0, 2, 5, 7, 8, 28, 29, 35};
    for (int method : often) {
      weights[method] += random.nextInt(20);
    }
    weights[7] += random.nextBoolean() ? 40 : 0;
    weights[8] += random.nextBoolean() ? 20 : 0;
    weights[6] = random.nextInt(4) == 0 ? 8 : 1;
  }

  public static void main(String[] args) {
    for (int seed = 0; seed < RUNS && CHECKS.wrongs() < 5; seed++) {
      new RandomRunsTest(seed).run(seed);
    }
    CHECKS.end("RandomRunsTest");
  }

  private void run(int seed) {
    int before = CHECKS.wrongs();
    int atOnce = random.nextInt(31);
    for (int i = 0; i < CALLS && CHECKS.wrongs() == before; i++) {
      call(i < atOnce && isTidy ? 5 : chosen());
    }
    if (CHECKS.wrongs() != before) {
      System.out.println("in the run " + seed + ":" + log);
    }
  }

  private int chosen() {
    int sum = 0;
    for (int weight : weights) {
      sum += weight;
    }
    int left = random.nextInt(sum);
    for (int i = 0; i < METHODS; i++) {
      left -= weights[i];
      if (left < 0) {
        return i;
      }
    }
    return 0;
  }

  private void both(String what, Checks.Call own, Checks.Call other) {
    String want = plain(other);
    String got = Checks.thrownBy(own);
    log.append("\n  ").append(what).append(" = ").append(got);
    CHECKS.holds(what + " answered " + got + ", due is " + want, got.equals(want));
  }

  private static String plain(Checks.Call call) {
    try {
      return Double.toString(call.make());
    } catch (IndexOutOfBoundsException | IllegalArgumentException | IllegalStateException
        | java.util.NoSuchElementException thrown) {
      return thrown.getClass().getName();
    }
  }

  private int among(int least, int most) {
    if (random.nextInt(isTidy ? 25 : 4) == 0) {
      return edge();
    }
    return least + random.nextInt(most - least + 1);
  }

  private int edge() {
    return EDGES[random.nextInt(EDGES.length)];
  }

  private int entrant() {
    return among(0, Math.min(29, Math.max(3, reference.entrants() + random.nextInt(2))));
  }

  private int points() {
    return random.nextBoolean() && reference.entrants() > 0
        ? reference.scoreOf(reference.at(1 + random.nextInt(reference.entrants())), 0)
            + (random.nextInt(3) == 0 ? random.nextInt(3) - 1 : 0)
        : among(-spread, spread);
  }

  private int[] words() {
    String text = orderText();
    int[] words = new int[5];
    int at = 0;
    for (int i = 0; i < 20; i++) {
      boolean isLeftOut = text.length() - at < 20 - i && random.nextInt(3) == 0;
      int sign = isLeftOut || at >= text.length() ? 0 : text.charAt(at++) & 255;
      words[i / 4] |= sign << 24 - 8 * (i % 4);
    }
    return words;
  }

  private String orderText() {
    StringBuilder text = new StringBuilder();
    int criteria = 1 + random.nextInt(random.nextInt(5) == 0 ? 6 : 3);
    if (random.nextInt(5) == 0) {
      text.append(random.nextBoolean() ? ";" : "+");
    }
    for (int i = 0; i < criteria; i++) {
      text.append(i > 0 ? ";" : "").append(random.nextBoolean() ? ">" : "<");
      int terms = 1 + random.nextInt(random.nextInt(5) == 0 ? 6 : 2);
      for (int j = 0; j < terms; j++) {
        text.append(j == 0 ? "" : random.nextBoolean() ? "+" : "-");
        if (random.nextInt(3) == 0) {
          text.append(random.nextInt(random.nextInt(5) == 0 ? 2000 : 12)).append('*');
        }
        text.append((char) ('a' + random.nextInt(4)));
        text.append(random.nextInt(6) == 0 ? random.nextBoolean() ? " " : "\n" : "");
      }
    }
    if (random.nextInt(3) == 0) {
      String signs = "><+-*;abcde019 \n\t";
      int at = random.nextInt(text.length());
      int sort = random.nextInt(4);
      char sign = random.nextInt(9) == 0 ? (char) (1 + random.nextInt(255))
          : signs.charAt(random.nextInt(signs.length()));
      if (sort == 0) {
        text.deleteCharAt(at);
      } else if (sort == 1) {
        text.insert(at, sign);
      } else if (sort == 2) {
        text.setCharAt(at, sign);
      } else {
        text.setLength(at);
      }
    }
    return text.toString();
  }

  private void call(int method) {
    if (method < 13) {
      callEntrants(method);
    } else if (method < 28) {
      callStanding(method);
    } else if (method < 41) {
      callRounds(method);
    } else {
      callFigures(method);
    }
  }

  private void callEntrants(int method) {
    int e = entrant();
    int kind = among(0, random.nextBoolean() ? 0 : 3);
    switch (method) {
      case 0: {
        int[] w = words();
        both("append(" + java.util.Arrays.toString(w) + ")",
            () -> hall.append(w[0], w[1], w[2], w[3], w[4]), () -> reference.append(w));
        if (random.nextBoolean()) {
          both("setOrder()", hall::setOrder, reference::setOrder);
        }
        break;
      }
      case 1: both("clearTape()", hall::clearTape, reference::clearTape); break;
      case 2: both("setOrder()", hall::setOrder, reference::setOrder); break;
      case 3: both("errorPosition()", hall::errorPosition, reference::errorPosition); break;
      case 4: {
        int c = among(0, 3);
        both("criterion(" + e + ", " + c + ")", () -> hall.criterion(e, c),
            () -> reference.criterion(e, c));
        break;
      }
      case 5: {
        int g = among(0, 4);
        both("come(" + g + ")", () -> hall.come(g), () -> reference.come(g));
        break;
      }
      case 6: both("leave(" + e + ")", () -> hall.leave(e), () -> reference.leave(e)); break;
      case 7: {
        int more = among(-spread, spread);
        both("score(" + e + ", " + kind + ", " + more + ")", () -> hall.score(e, kind, more),
            () -> reference.score(e, kind, more));
        break;
      }
      case 8: {
        int value = random.nextBoolean() ? points() : among(-spread, spread);
        both("setScore(" + e + ", " + kind + ", " + value + ")",
            () -> hall.setScore(e, kind, value), () -> reference.setScore(e, kind, value));
        break;
      }
      case 9: both("scoreOf(" + e + ", " + kind + ")", () -> hall.scoreOf(e, kind),
          () -> reference.scoreOf(e, kind)); break;
      case 10: both("groupOf(" + e + ")", () -> hall.groupOf(e), () -> reference.groupOf(e)); break;
      case 11: both("entrants()", hall::entrants, reference::entrants); break;
      default: {
        int p = among(1, 30);
        both("at(" + p + ")", () -> hall.at(p), () -> reference.at(p));
      }
    }
  }

  private void callStanding(int method) {
    int e = entrant();
    int points = points();
    int more = among(-spread, spread);
    switch (method) {
      case 13: both("place(" + e + ")", () -> hall.place(e), () -> reference.place(e)); break;
      case 14: {
        int sort = among(0, 2);
        both("rank(" + e + ", " + sort + ")", () -> hall.rank(e, sort),
            () -> reference.rank(e, sort));
        break;
      }
      case 15: both("alike(" + e + ")", () -> hall.alike(e), () -> reference.alike(e)); break;
      case 16: both("results()", hall::results, reference::results); break;
      case 17: both("rankSum()", hall::rankSum, reference::rankSum); break;
      case 18: {
        int kind = among(0, 3);
        both("wouldGain(" + e + ", " + kind + ", " + more + ")",
            () -> hall.wouldGain(e, kind, more), () -> reference.wouldGain(e, kind, more));
        break;
      }
      case 19: {
        int rank = among(1, 1 + random.nextInt(30));
        both("needed(" + e + ", " + rank + ")", () -> hall.needed(e, rank),
            () -> reference.needed(e, rank));
        break;
      }
      case 20: both("above(" + points + ")", () -> hall.above(points),
          () -> reference.above(points)); break;
      case 21: both("with(" + points + ")", () -> hall.with(points),
          () -> reference.with(points)); break;
      case 22: {
        int index = among(0, 5);
        both("withAt(" + points + ", " + index + ")", () -> hall.withAt(points, index),
            () -> reference.withAt(points, index));
        break;
      }
      case 23: both("next(" + points + ")", () -> hall.next(points),
          () -> reference.next(points)); break;
      case 24: both("between(" + points + ", " + more + ")", () -> hall.between(points, more),
          () -> reference.between(points, more)); break;
      case 25: both("median(false)", () -> hall.median(false),
          () -> reference.median(false)); break;
      case 26: both("median(true)", () -> hall.median(true), () -> reference.median(true)); break;
      default: {
        int q = among(1, random.nextBoolean() ? 100 : 5);
        int p = q > 0 && random.nextInt(9) > 0 ? random.nextInt(Math.min(q, 1000) + 1) : edge();
        both("quantile(" + p + ", " + q + ")", () -> hall.quantile(p, q),
            () -> reference.quantile(p, q));
      }
    }
  }

  private int laddered() {
    try {
      return random.nextInt(6) == 0 ? entrant() : reference.ladderAt(1 + random.nextInt(12));
    } catch (IndexOutOfBoundsException thrown) {
      return entrant();
    }
  }

  private void callRounds(int method) {
    int e = entrant();
    switch (method) {
      case 28: both("enter(" + e + ")", () -> hall.enter(e), () -> reference.enter(e)); break;
      case 29: {
        int c = laddered();
        int o = laddered();
        boolean wins = random.nextBoolean();
        both("challenge(" + c + ", " + o + ", " + wins + ")", () -> hall.challenge(c, o, wins),
            () -> reference.challenge(c, o, wins));
        break;
      }
      case 30: both("mayChallenge(" + e + ")", () -> hall.mayChallenge(e),
          () -> reference.mayChallenge(e)); break;
      case 31: {
        int r = among(1, 5);
        both("setReach(" + r + ")", () -> hall.setReach(r), () -> reference.setReach(r));
        break;
      }
      case 32: {
        int r = among(1, random.nextBoolean() ? 9 : 2);
        both("setPatience(" + r + ")", () -> hall.setPatience(r), () -> reference.setPatience(r));
        break;
      }
      case 33: {
        int p = among(1, 12);
        both("ladderAt(" + p + ")", () -> hall.ladderAt(p), () -> reference.ladderAt(p));
        break;
      }
      case 34: both("ladderPlace(" + e + ")", () -> hall.ladderPlace(e),
          () -> reference.ladderPlace(e)); break;
      case 35: {
        both("endRound()", hall::endRound, reference::endRound);
        for (int i = 1; i <= reference.ladderSize() + 1; i++) {
          int p = i;
          both("ladderAt(" + p + ")", () -> hall.ladderAt(p), () -> reference.ladderAt(p));
        }
        break;
      }
      case 36: both("round()", hall::round, reference::round); break;
      case 37: both("gain(" + e + ")", () -> hall.gain(e), () -> reference.gain(e)); break;
      case 38: {
        int n = among(1, 10);
        int k = n > 0 && random.nextInt(9) > 0 ? 1 + random.nextInt(n) : edge();
        both("form(" + e + ", " + k + ", " + n + ")", () -> hall.form(e, k, n),
            () -> reference.form(e, k, n));
        break;
      }
      case 39: {
        int n = among(1, 10);
        int k = n > 0 && random.nextInt(9) > 0 ? 1 + random.nextInt(n) : edge();
        both("inForm(" + k + ", " + n + ")", () -> hall.inForm(k, n), () -> reference.inForm(k, n));
        break;
      }
      default: {
        int r = then();
        both("placeThen(" + r + ", " + e + ")", () -> hall.placeThen(r, e),
            () -> reference.placeThen(r, e));
      }
    }
  }

  private int then() {
    int sort = random.nextInt(8);
    if (sort == 0) {
      return among(-1, 200);
    }
    if (sort == 1) {
      return reference.round() - 19 - random.nextInt(3);
    }
    return sort == 2 ? -1 : reference.round() - 1 - random.nextInt(20);
  }

  private void callFigures(int method) {
    int e = entrant();
    int g = among(0, 4);
    int r = then();
    int o = then();
    switch (method) {
      case 41: both("climb(" + r + ")", () -> hall.climb(r), () -> reference.climb(r)); break;
      case 42: both("best(" + g + ")", () -> hall.best(g), () -> reference.best(g)); break;
      case 43: both("members(" + g + ")", () -> hall.members(g),
          () -> reference.members(g)); break;
      case 44: both("teamScore(" + g + ")", () -> hall.teamScore(g),
          () -> reference.teamScore(g)); break;
      case 45: {
        int p = among(1, 5);
        both("groupAt(" + p + ")", () -> hall.groupAt(p), () -> reference.groupAt(p));
        break;
      }
      case 46: both("inversions(" + r + ", " + o + ")", () -> hall.inversions(r, o),
          () -> reference.inversions(r, o)); break;
      case 47: both("swaps(" + r + ", " + o + ")", () -> hall.swaps(r, o),
          () -> reference.swaps(r, o)); break;
      case 48: both("meanPoints()", hall::meanPoints, reference::meanPoints); break;
      default: {
        both("beats(" + e + ")", () -> hall.beats(e), () -> reference.beats(e));
        both("errors()", hall::errors, reference::errors);
      }
    }
  }
}
