/**
 * What a hall answers to a long row of calls, so that two halls can be compared: first to those
 * that only ask, then to some that change it and so show what else it keeps.
 */
final class Trace {
  private final StandingsHall hall;
  private final StringBuilder told = new StringBuilder();
  private int room;
  private int round;

  private Trace(StandingsHall hall, int room) {
    this.hall = hall;
    this.room = room;
  }

  /** The answers to at most so many calls. */
  static String of(StandingsHall hall, int room, boolean isWithErrorPosition) {
    Trace trace = new Trace(hall, room);
    if (isWithErrorPosition) {
      trace.ask("errorPosition", hall::errorPosition);
    }
    trace.askForFigures();
    trace.askForRows();
    trace.askForEachEntrant();
    trace.askForEarlierRounds();
    trace.change();
    return trace.told.toString();
  }

  private String ask(String call, Checks.Call asked) {
    if (room <= 0) {
      return "no room";
    }
    room--;
    String answer = Checks.thrownBy(asked);
    told.append(call).append(" = ").append(answer).append('\n');
    return answer;
  }

  private static boolean isGiven(String answer) {
    return !answer.equals("no room") && !Step.isThrown(answer);
  }

  private static int number(String answer) {
    return isGiven(answer) ? (int) Double.parseDouble(answer) : 0;
  }

  private void askForFigures() {
    round = number(ask("round", hall::round));
    ask("entrants", hall::entrants);
    ask("setReach", () -> hall.setReach(2));
    ask("setPatience", () -> hall.setPatience(1));
    ask("append", () -> hall.append(0, 0, 0, 0, 0));
    ask("results", hall::results);
    ask("rankSum", hall::rankSum);
    ask("meanPoints", hall::meanPoints);
    ask("errors", hall::errors);
    ask("median", () -> hall.median(false));
    ask("groupAt", () -> hall.groupAt(1));
  }

  private void askForRows() {
    for (int i = 1; i <= 31; i++) {
      int place = i;
      if (!isGiven(ask("at " + i, () -> hall.at(place)))) {
        break;
      }
    }
    askForLadder();
    int points = Integer.MIN_VALUE;
    for (int i = 0; i < 30; i++) {
      int below = points;
      String next = ask("next to " + points, () -> hall.next(below));
      if (!isGiven(next)) {
        break;
      }
      points = number(next);
      int have = points;
      for (int j = 0; j < 30; j++) {
        int index = j;
        String one = ask("withAt " + points + ", " + j, () -> hall.withAt(have, index));
        if (!isGiven(one) || one.startsWith("-1")) {
          break;
        }
      }
    }
  }

  private void askForLadder() {
    for (int i = 1; i <= 31; i++) {
      int place = i;
      if (!isGiven(ask("ladderAt " + i, () -> hall.ladderAt(place)))) {
        break;
      }
    }
  }

  private void askForEachEntrant() {
    for (int i = 0; i < 30; i++) {
      int one = i;
      if (!isGiven(ask("gain " + i, () -> hall.gain(one)))) {
        continue;
      }
      for (int kind = 0; kind < 4; kind++) {
        int k = kind;
        ask("scoreOf " + i + ", " + kind, () -> hall.scoreOf(one, k));
        ask("criterion " + i + ", " + kind, () -> hall.criterion(one, k));
      }
      ask("groupOf " + i, () -> hall.groupOf(one));
      ask("form " + i, () -> hall.form(one, 1, 1));
      ask("form " + i, () -> hall.form(one, 10, 10));
      ask("rank " + i, () -> hall.rank(one, 2));
    }
  }

  private void askForEarlierRounds() {
    for (int back = 0; back <= 21; back++) {
      int then = round - back;
      ask("inversions " + then, () -> hall.inversions(then, StandingsHall.NONE));
    }
    for (int i = 0; i < 5; i++) {
      int one = i;
      ask("placeThen latest, " + i, () -> hall.placeThen(round - 1, one));
      ask("placeThen earliest, " + i, () -> hall.placeThen(round - 20, one));
    }
  }

  /** The patience is 1 now: who has played in this round is seen by who falls. */
  private void change() {
    ask("endRound", hall::endRound);
    askForLadder();
    ask("come", () -> hall.come(1));
    ask("setOrder", hall::setOrder);
    ask("errorPosition", hall::errorPosition);
    int first = number(ask("at 1", () -> hall.at(1)));
    ask("form " + first, () -> hall.form(first, 1, 1));
  }
}
