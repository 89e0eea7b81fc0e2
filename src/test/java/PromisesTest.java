/** For each promise of the document: ordinary inputs, the edges that it names, wrong inputs. */
public final class PromisesTest {
  private static final Checks C = new Checks();
  private static final int LEAST = Integer.MIN_VALUE;
  private static final int MOST = Integer.MAX_VALUE;

  public static void main(String[] args) {
    newObject();
    theTape();
    orders();
    wrongOrders();
    criteria();
    coming();
    leaving();
    scores();
    standing();
    ranks();
    trials();
    pointsNeeded();
    points();
    pointsInTheOrderOfComing();
    quantiles();
    entering();
    challenges();
    falling();
    fallingLater();
    rounds();
    forms();
    recordedStandings();
    groups();
    groupsOfTheSameScore();
    apart();
    figures();
    refusedCalls();
    C.end("PromisesTest");
  }

  private static StandingsHall hall(int... points) {
    StandingsHall hall = new StandingsHall();
    for (int i = 0; i < points.length; i++) {
      hall.come(i % 5);
      hall.setScore(i, 0, points[i]);
    }
    return hall;
  }

  private static void row(String what, StandingsHall hall, int... want) {
    C.due(what + ": entrants()", hall.entrants(), want.length);
    for (int i = 0; i < want.length && i < hall.entrants(); i++) {
      C.due(what + ": at(" + (i + 1) + ")", hall.at(i + 1), want[i]);
      C.due(what + ": place(" + want[i] + ")", hall.place(want[i]), i + 1);
    }
    C.due(what + ": errors()", hall.errors(), 0);
  }

  private static void ladder(String what, StandingsHall hall, int... want) {
    for (int i = 0; i < want.length; i++) {
      int place = i + 1;
      C.due(what + ": ladderAt(" + place + ")", hall.ladderAt(place), want[i]);
      C.due(what + ": ladderPlace(" + want[i] + ")", hall.ladderPlace(want[i]), place);
    }
    C.refuses(what + ": ladderAt behind the last", Checks.BOUNDS,
        () -> hall.ladderAt(want.length + 1));
  }

  // Promises 1, 5, 13, 34, 37.
  private static void newObject() {
    C.due("NONE", StandingsHall.NONE, -1);
    StandingsHall hall = new StandingsHall();
    C.due("entrants()", hall.entrants(), 0);
    C.due("round()", hall.round(), 0);
    C.due("errorPosition()", hall.errorPosition(), -1);
    C.due("clearTape()", hall.clearTape(), 0);
    C.due("results()", hall.results(), 0);
    C.due("rankSum()", hall.rankSum(), 0);
    C.due("errors()", hall.errors(), 0);
    C.due("meanPoints()", hall.meanPoints(), 0.0);
    C.refuses("at(1)", Checks.BOUNDS, () -> hall.at(1));
    C.refuses("ladderAt(1)", Checks.BOUNDS, () -> hall.ladderAt(1));
    C.refuses("place(0)", Checks.BOUNDS, () -> hall.place(0));
    C.refuses("place(-1)", Checks.BOUNDS, () -> hall.place(-1));
    C.refuses("median(false)", Checks.ELEMENT, () -> hall.median(false));
    C.due("the order is >a: come", hall.come(0) + hall.come(0), 1);
    hall.score(1, 0, 1);
    C.due("the order is >a", hall.at(1), 1);
    C.due("criterion(1, 0)", hall.criterion(1, 0), 1);
    C.refuses("criterion(1, 1)", Checks.ARGUMENT, () -> hall.criterion(1, 1));
  }

  // Promises 2, 3.
  private static void theTape() {
    StandingsHall hall = new StandingsHall();
    C.due("append of 0s", hall.append(0, 0, 0, 0, 0), 0);
    C.due("append, 0 left out", hall.append(0x3e006100, 0, 0, 0x0000003b, 0x3c000062), 5);
    C.due("the bytes in order", hall.setOrder(), 2);
    C.due("setOrder() empties the tape", hall.clearTape(), 0);
    C.due("append, all twenty", hall.append(-1, -1, -1, -1, -1), 20);
    for (int i = 2; i <= 4; i++) {
      C.due("append", hall.append(-1, LEAST | 0x010101, MOST, -1, -1), 20 * i);
    }
    C.due("append", hall.append(-1, -1, -1, -1, 0x01010100), 99);
    C.refuses("append of two over 100", Checks.STATE, () -> hall.append(1, 0, 0, 0, 1));
    C.refuses("append of two over 100", Checks.STATE, () -> hall.append(0, 1, 0, 1, 0));
    C.refuses("append of two over 100", Checks.STATE, () -> hall.append(0, 0, 0x0100, 0, 9));
    C.refuses("append of three over 100", Checks.STATE, () -> hall.append(0, 1, 1, 1, 0));
    C.due("append up to 100", hall.append(0, 0, 0x00010000, 0, 0), 100);
    C.due("append of nothing", hall.append(0, 0, 0, 0, 0), 100);
    C.refuses("append over 100", Checks.STATE, () -> hall.append(0, 0, 0, 0, 0x20));
    C.due("clearTape()", hall.clearTape(), 100);
    C.due("clearTape()", hall.clearTape(), 0);
    Tapes.put(hall, ">c");
    hall.clearTape();
    Tapes.put(hall, ">b");
    C.due("the tape after clearing", hall.setOrder(), 1);
    hall.come(0);
    hall.score(0, 1, 7);
    C.due("criterion after clearing", hall.criterion(0, 0), 7);
  }

  private static void fits(String text, int criteria) {
    StandingsHall hall = new StandingsHall();
    C.due("setOrder of " + text, Tapes.order(hall, text), criteria);
    C.due("errorPosition of " + text, hall.errorPosition(), -1);
    C.due("the tape behind " + text, hall.clearTape(), 0);
  }

  private static void errs(String text, int position) {
    StandingsHall hall = hall(1, 2);
    hall.setScore(0, 1, 40);
    hall.setScore(1, 1, 30);
    Tapes.order(hall, ">b;<a");
    C.refuses("setOrder of " + text, Checks.ARGUMENT, () -> Tapes.order(hall, text));
    C.due("errorPosition of " + text, hall.errorPosition(), position);
    C.due("the tape behind " + text, hall.clearTape(), 0);
    C.due("the order behind " + text, hall.criterion(0, 0), 40);
    C.due("the order behind " + text, hall.criterion(1, 1), 2);
    row("behind " + text, hall, 0, 1);
    hall.setScore(1, 1, 40);
    row("ties behind " + text, hall, 0, 1);
    hall.setScore(1, 0, 0);
    row("ties behind " + text, hall, 1, 0);
  }

  // Promises 4, 5.
  private static void orders() {
    fits(">a", 1);
    fits("<d", 1);
    fits(">a;<b;>c;<d", 4);
    fits(">a+b+c+d", 1);
    fits(">999*a-999*b+0*c-000*d;<a+a-a+a", 2);
    fits(" \n> \n1 * a \n - 23*b ; < c \n", 2);
    fits("<a-b-c-d;>a-b-c-d;>a-b-c-d;<a-b-c-d", 4);
    fits(">" + " ".repeat(98) + "a", 1);
    fits(">9*a+99*b+999*c+9*d;<9*a+99*b+999*c+9*d;>9*a+99*b+999*c+9*d;<9*a+99*b+999*c+9*d", 4);
  }

  private static void wrongOrders() {
    errs("", 0);
    errs(" \n ", 3);
    errs("a", 0);
    errs(" a", 1);
    errs(">", 1);
    errs("> \n", 3);
    errs(">e", 1);
    errs(">A", 1);
    errs(">`", 1);
    errs(">a;", 3);
    errs(">a; ", 4);
    errs(">a;;", 3);
    errs(">a,>b", 2);
    errs(">a>b", 2);
    errs(">a b", 3);
    errs(">a\t", 2);
    errs(">a\r", 2);
    errs(">a" + (char) 255, 2);
    errs(">a" + (char) 160, 2);
    errs(">a+", 3);
    errs(">a-;", 3);
    errs(">+a", 1);
    errs(">-a", 1);
    errs(">>a", 1);
    errs(">1", 2);
    errs(">1a", 2);
    errs(">1 2*a", 3);
    errs(">1*", 3);
    errs(">1**a", 3);
    errs(">1*2*a", 3);
    errs(">1*2", 3);
    errs(">1000*a", 1);
    errs(">0001*a", 1);
    errs(">1*1000", 3);
    errs(">a*2", 2);
    errs(">a2", 2);
    errs(">a;1", 3);
    errs(">a;b", 3);
    errs(">a;+b", 3);
    errs(">a+b+c+d+a", 9);
    errs(">a+b+c+d + 5*a", 11);
    errs(">a+b+c+d+", 9);
    errs(">a+b+c+d-;", 9);
    errs(">a+b+c+d;>a+b+c+d+a", 18);
    errs(">a;>b;>c;>d;>a", 12);
    errs(">a;>b;>c;>d; <a", 13);
    errs(">a;>b;>c;>d;", 12);
    errs(">a;>b;>c;>d; ", 13);
    errs(">a;>b;>c;>d;x", 12);
    errs(" ".repeat(100), 100);
    errs(">" + "1".repeat(99), 1);
    errs(">/*a", 1);
    errs(">:*a", 1);
    StandingsHall hall = new StandingsHall();
    C.refuses("setOrder of an empty tape", Checks.ARGUMENT, hall::setOrder);
    C.due("errorPosition()", hall.errorPosition(), 0);
    hall.append('>' << 8 | 'x', 0, 0, 0, 0);
    C.due("append leaves the error position", hall.errorPosition(), 0);
    C.refuses("setOrder of >x", Checks.ARGUMENT, hall::setOrder);
    C.due("errorPosition()", hall.errorPosition(), 1);
    hall.append('>' << 8 | 'a', 0, 0, 0, 0);
    C.due("setOrder()", hall.setOrder(), 1);
    C.due("errorPosition()", hall.errorPosition(), -1);
  }

  // Promise 6, and the order of section 2.
  private static void criteria() {
    StandingsHall hall = hall(5, -100000);
    for (int kind = 1; kind < 4; kind++) {
      hall.setScore(0, kind, 10 * kind);
      hall.setScore(1, kind, -100000);
    }
    C.due("setOrder()", Tapes.order(hall, "<2*a-3*b+c-d;>999*a+999*a+999*a+999*a;>a-a;<12*d"), 4);
    C.due("criterion(0, 0)", hall.criterion(0, 0), 10 - 30 + 20 - 30);
    C.due("criterion(0, 1)", hall.criterion(0, 1), 19980);
    C.due("criterion(0, 2)", hall.criterion(0, 2), 0);
    C.due("criterion(0, 3)", hall.criterion(0, 3), 360);
    C.due("criterion(1, 1)", hall.criterion(1, 1), -399600000);
    C.refuses("criterion(0, 4)", Checks.ARGUMENT, () -> hall.criterion(0, 4));
    C.refuses("criterion(0, -1)", Checks.ARGUMENT, () -> hall.criterion(0, -1));
    C.refuses("criterion(0, LEAST)", Checks.ARGUMENT, () -> hall.criterion(0, LEAST));
    C.refuses("criterion(0, MOST)", Checks.ARGUMENT, () -> hall.criterion(0, MOST));
    C.refuses("criterion(2, 0)", Checks.BOUNDS, () -> hall.criterion(2, 0));
    C.refuses("criterion(-1, 9)", Checks.BOUNDS, () -> hall.criterion(-1, 9));
    C.due("setOrder()", Tapes.order(hall, ">d"), 1);
    C.refuses("criterion(0, 1)", Checks.ARGUMENT, () -> hall.criterion(0, 1));
    C.due("criterion(0, 0)", hall.criterion(0, 0), 30);
    hall.setScore(0, 3, -7);
    C.due("criterion(0, 0)", hall.criterion(0, 0), -7);
  }

  // Promises 7, 12, 13.
  private static void coming() {
    StandingsHall hall = new StandingsHall();
    C.refuses("come(5)", Checks.ARGUMENT, () -> hall.come(5));
    C.refuses("come(-1)", Checks.ARGUMENT, () -> hall.come(-1));
    for (int i = 0; i < 30; i++) {
      C.due("come", hall.come(i % 5), i);
      C.due("entrants()", hall.entrants(), i + 1);
      C.due("groupOf", hall.groupOf(i), i % 5);
      C.due("scoreOf", hall.scoreOf(i, 3), 0);
    }
    C.refuses("come over 30", Checks.STATE, () -> hall.come(0));
    C.refuses("come(5) over 30", Checks.ARGUMENT, () -> hall.come(5));
    hall.leave(7);
    C.refuses("come though one has left", Checks.STATE, () -> hall.come(0));
    C.due("entrants()", hall.entrants(), 29);
    C.refuses("groupOf(7)", Checks.BOUNDS, () -> hall.groupOf(7));
    C.refuses("groupOf(30)", Checks.BOUNDS, () -> hall.groupOf(30));
    C.refuses("groupOf(-1)", Checks.BOUNDS, () -> hall.groupOf(-1));
    C.refuses("groupOf(MOST)", Checks.BOUNDS, () -> hall.groupOf(MOST));
    C.due("errors()", hall.errors(), 0);
  }

  // Promise 8.
  private static void leaving() {
    StandingsHall hall = hall(3, 9, 6, 9);
    for (int i = 0; i < 4; i++) {
      hall.enter(i);
    }
    C.due("leave(3)", hall.leave(3), 2);
    row("after leave(3)", hall, 1, 2, 0);
    C.due("leave(1)", hall.leave(1), 1);
    row("after leave(1)", hall, 2, 0);
    ladder("after leaving", hall, 0, 2);
    C.due("with(9)", hall.with(9), 0);
    C.due("members(1)", hall.members(1), 0);
    C.refuses("leave(1)", Checks.BOUNDS, () -> hall.leave(1));
    C.refuses("leave(4)", Checks.BOUNDS, () -> hall.leave(4));
    C.refuses("leave(-1)", Checks.BOUNDS, () -> hall.leave(-1));
    C.refuses("score(1, 0, 1)", Checks.BOUNDS, () -> hall.score(1, 0, 1));
    C.due("the number is not given again", hall.come(1), 4);
    C.due("leave(2)", hall.leave(2), 1);
    C.due("leave(4)", hall.leave(4), 2);
    C.due("leave(0)", hall.leave(0), 1);
    C.due("entrants()", hall.entrants(), 0);
    C.refuses("quantile(1, 1)", Checks.ELEMENT, () -> hall.quantile(1, 1));
    C.due("errors()", hall.errors(), 0);
  }

  // Promises 9, 10, 11.
  private static void scores() {
    StandingsHall hall = hall(0, 0);
    for (int kind = 0; kind < 4; kind++) {
      int k = kind;
      C.due("score", hall.score(1, kind, 10 + kind), 10 + kind);
      C.due("score", hall.score(1, kind, -3), 7 + kind);
      C.due("scoreOf", hall.scoreOf(1, kind), 7 + kind);
      C.due("scoreOf", hall.scoreOf(0, kind), 0);
      C.due("setScore", hall.setScore(1, kind, 100000), 7 + kind);
      C.refuses("score over", Checks.ARGUMENT, () -> hall.score(1, k, 1));
      C.refuses("score over", Checks.ARGUMENT, () -> hall.score(1, k, MOST));
      C.due("score of 0", hall.score(1, kind, 0), 100000);
      C.due("score down", hall.score(1, kind, -200000), -100000);
      C.refuses("score under", Checks.ARGUMENT, () -> hall.score(1, k, -1));
      C.refuses("score under", Checks.ARGUMENT, () -> hall.score(1, k, LEAST));
      C.refuses("setScore over", Checks.ARGUMENT, () -> hall.setScore(1, k, 100001));
      C.refuses("setScore under", Checks.ARGUMENT, () -> hall.setScore(1, k, -100001));
      C.refuses("setScore(LEAST)", Checks.ARGUMENT, () -> hall.setScore(1, k, LEAST));
      C.due("scoreOf", hall.scoreOf(1, kind), -100000);
      C.due("setScore", hall.setScore(1, kind, 5), -100000);
    }
    int[] kinds = {-1, 4, LEAST, MOST};
    for (int kind : kinds) {
      C.refuses("score of no kind", Checks.ARGUMENT, () -> hall.score(1, kind, 1));
      C.refuses("setScore of no kind", Checks.ARGUMENT, () -> hall.setScore(1, kind, 1));
      C.refuses("scoreOf no kind", Checks.ARGUMENT, () -> hall.scoreOf(1, kind));
    }
    int[] nobodies = {-1, 2, 30, LEAST, MOST};
    for (int nobody : nobodies) {
      C.refuses("score of nobody", Checks.BOUNDS, () -> hall.score(nobody, 4, 1));
      C.refuses("setScore of nobody", Checks.BOUNDS, () -> hall.setScore(nobody, 0, 100001));
      C.refuses("scoreOf nobody", Checks.BOUNDS, () -> hall.scoreOf(nobody, 4));
    }
    C.due("errors()", hall.errors(), 0);
  }

  // Promises 14, 15.
  private static void standing() {
    StandingsHall hall = hall(4, 7, 4, 9, 7);
    row("by >a", hall, 3, 1, 4, 0, 2);
    hall.score(4, 0, 1);
    row("one better", hall, 3, 4, 1, 0, 2);
    hall.score(4, 1, 50);
    row("b does not count", hall, 3, 4, 1, 0, 2);
    Tapes.order(hall, "<a");
    row("by <a", hall, 0, 2, 1, 4, 3);
    Tapes.order(hall, ">0*a");
    row("all alike", hall, 0, 1, 2, 3, 4);
    Tapes.order(hall, "<b;>a");
    row("by <b;>a", hall, 3, 1, 0, 2, 4);
    hall.setScore(2, 1, -1);
    row("by <b;>a", hall, 2, 3, 1, 0, 4);
    Tapes.order(hall, ">a-b");
    row("by >a-b", hall, 3, 1, 2, 0, 4);
    hall.come(0);
    row("one more", hall, 3, 1, 2, 0, 5, 4);
    int[] places = {0, -1, 7, LEAST, MOST};
    for (int place : places) {
      C.refuses("at(" + place + ")", Checks.BOUNDS, () -> hall.at(place));
    }
    int[] nobodies = {6, -1, 30, LEAST, MOST};
    for (int nobody : nobodies) {
      C.refuses("place(" + nobody + ")", Checks.BOUNDS, () -> hall.place(nobody));
    }
    StandingsHall farApart = hall(100000, -100000);
    Tapes.order(farApart, ">999*a+999*a+999*a+999*a");
    row("values far apart", farApart, 0, 1);
    Tapes.order(farApart, "<999*a+999*a+999*a+999*a");
    row("values far apart", farApart, 1, 0);
  }

  // Promises 16 to 19.
  private static void ranks() {
    StandingsHall hall = hall(5, 8, 5, 8, 5, 1);
    int[][] want = {{3, 2, 8, 3}, {1, 1, 3, 2}, {3, 2, 8, 3}, {1, 1, 3, 2}, {3, 2, 8, 3},
        {6, 3, 12, 1}};
    for (int i = 0; i < 6; i++) {
      int one = i;
      for (int sort = 0; sort < 3; sort++) {
        C.due("rank(" + i + ", " + sort + ")", hall.rank(i, sort), want[i][sort]);
      }
      C.due("alike(" + i + ")", hall.alike(i), want[i][3]);
      C.refuses("rank of no sort", Checks.ARGUMENT, () -> hall.rank(one, 3));
      C.refuses("rank of no sort", Checks.ARGUMENT, () -> hall.rank(one, -1));
    }
    C.due("results()", hall.results(), 3);
    C.due("rankSum()", hall.rankSum(), 42);
    C.refuses("rank(6, 3)", Checks.BOUNDS, () -> hall.rank(6, 3));
    C.refuses("alike(6)", Checks.BOUNDS, () -> hall.alike(6));
    C.refuses("alike(-1)", Checks.BOUNDS, () -> hall.alike(-1));
    Tapes.order(hall, ">a;<b");
    hall.setScore(2, 1, -3);
    C.due("rank(2, 0)", hall.rank(2, 0), 3);
    C.due("rank(0, 0)", hall.rank(0, 0), 4);
    C.due("rank(0, 1)", hall.rank(0, 1), 3);
    C.due("rank(0, 2)", hall.rank(0, 2), 9);
    C.due("alike(0)", hall.alike(0), 2);
    C.due("results()", hall.results(), 4);
    C.due("rankSum()", hall.rankSum(), 42);
    hall.leave(1);
    C.due("rankSum()", hall.rankSum(), 30);
    C.due("rank(0, 0)", hall.rank(0, 0), 3);
  }

  // Promise 20.
  private static void trials() {
    StandingsHall hall = hall(1, 5, 5, 9);
    C.due("wouldGain(0, 0, 3)", hall.wouldGain(0, 0, 3), 0);
    C.due("wouldGain(0, 0, 4)", hall.wouldGain(0, 0, 4), 2);
    C.due("wouldGain(2, 0, 4)", hall.wouldGain(2, 0, 4), 2);
    C.due("wouldGain(2, 0, 5)", hall.wouldGain(2, 0, 5), 2);
    C.due("wouldGain(3, 0, -4)", hall.wouldGain(3, 0, -4), -2);
    C.due("wouldGain(3, 0, -9)", hall.wouldGain(3, 0, -9), -3);
    C.due("wouldGain(1, 1, 90)", hall.wouldGain(1, 1, 90), 0);
    C.due("wouldGain(1, 0, 0)", hall.wouldGain(1, 0, 0), 0);
    row("nothing is changed", hall, 3, 1, 2, 0);
    C.due("nothing is changed", hall.scoreOf(0, 0) + hall.gain(0), 2);
    C.refuses("wouldGain over", Checks.ARGUMENT, () -> hall.wouldGain(3, 0, 99992));
    C.refuses("wouldGain over", Checks.ARGUMENT, () -> hall.wouldGain(3, 0, MOST));
    C.refuses("wouldGain under", Checks.ARGUMENT, () -> hall.wouldGain(3, 1, -100001));
    C.refuses("wouldGain under", Checks.ARGUMENT, () -> hall.wouldGain(3, 1, LEAST));
    C.due("wouldGain up to the bound", hall.wouldGain(0, 0, 99999), 3);
    C.refuses("wouldGain of no kind", Checks.ARGUMENT, () -> hall.wouldGain(0, 4, 0));
    C.refuses("wouldGain of no kind", Checks.ARGUMENT, () -> hall.wouldGain(0, -1, 0));
    C.refuses("wouldGain of nobody", Checks.BOUNDS, () -> hall.wouldGain(4, 4, 0));
    Tapes.order(hall, "<a;>c");
    C.due("by <a: wouldGain(0, 0, 4)", hall.wouldGain(0, 0, 4), 0);
    C.due("by <a: wouldGain(0, 0, 5)", hall.wouldGain(0, 0, 5), -2);
    C.due("by <a: wouldGain(2, 2, 1)", hall.wouldGain(2, 2, 1), 1);
  }

  // Promise 21.
  private static void pointsNeeded() {
    StandingsHall hall = hall(0, 1000, 1001, 400, 400);
    C.due("needed(0, 5)", hall.needed(0, 5), 0);
    C.due("needed(0, 30)", hall.needed(0, 30), 0);
    C.due("needed(0, 4)", hall.needed(0, 4), 400);
    C.due("needed(0, 3)", hall.needed(0, 3), 400);
    C.due("needed(0, 2)", hall.needed(0, 2), 1000);
    C.due("needed(0, 1)", hall.needed(0, 1), -1);
    C.due("needed(1, 1)", hall.needed(1, 1), 1);
    C.due("needed(2, 1)", hall.needed(2, 1), 0);
    C.due("needed(3, 1)", hall.needed(3, 1), 601);
    row("nothing is changed", hall, 2, 1, 3, 4, 0);
    int[] ranks = {0, -1, 31, LEAST, MOST};
    for (int rank : ranks) {
      C.refuses("needed(0, " + rank + ")", Checks.ARGUMENT, () -> hall.needed(0, rank));
    }
    C.refuses("needed(5, 0)", Checks.BOUNDS, () -> hall.needed(5, 0));
    hall.setScore(2, 0, 100000);
    hall.setScore(1, 0, 99500);
    C.due("needed(1, 1) up to the bound", hall.needed(1, 1), 500);
    Tapes.order(hall, ">2*a+b");
    hall.setScore(2, 1, 1);
    C.due("needed(1, 1) beyond the bound", hall.needed(1, 1), -1);
    hall.setScore(1, 1, 2);
    C.due("needed(1, 1) by >2*a+b", hall.needed(1, 1), 500);
    hall.setScore(1, 1, 3);
    C.due("needed(1, 1) by >2*a+b", hall.needed(1, 1), 499);
    Tapes.order(hall, ">a;<b");
    hall.setScore(4, 1, 1);
    C.due("needed(4, 3) by the second criterion", hall.needed(4, 3), 1);
    C.due("needed(4, 4) by the second criterion", hall.needed(4, 4), 0);
    Tapes.order(hall, "<a");
    C.due("needed(2, 4) by <a", hall.needed(2, 4), -1);
    C.due("needed(0, 1) by <a", hall.needed(0, 1), 0);
    Tapes.order(hall, "<b-a");
    C.due("needed(0, 4) by <b-a", hall.needed(0, 4), 399);
  }

  // Promises 22, 23, 25, 26.
  private static void points() {
    StandingsHall hall = hall(5, -3, 5, 0, 100000, -100000);
    int[][] want = {{LEAST, 6, 0}, {-100001, 6, 0}, {-100000, 5, 1}, {-4, 5, 0}, {-3, 4, 1},
        {0, 3, 1}, {4, 3, 0}, {5, 1, 2}, {99999, 1, 0}, {100000, 0, 1}, {MOST, 0, 0}};
    for (int[] one : want) {
      C.due("above(" + one[0] + ")", hall.above(one[0]), one[1]);
      C.due("with(" + one[0] + ")", hall.with(one[0]), one[2]);
    }
    C.due("next(LEAST)", hall.next(LEAST), -100000);
    C.due("next(-100000)", hall.next(-100000), -3);
    C.due("next(-3)", hall.next(-3), 0);
    C.due("next(1)", hall.next(1), 5);
    C.due("next(5)", hall.next(5), 100000);
    C.refuses("next(100000)", Checks.ELEMENT, () -> hall.next(100000));
    C.refuses("next(MOST)", Checks.ELEMENT, () -> hall.next(MOST));
    C.refuses("next of nobody", Checks.ELEMENT, () -> hall().next(0));
    C.due("between(LEAST, MOST)", hall.between(LEAST, MOST), 6);
    C.due("between(-3, 5)", hall.between(-3, 5), 2);
    C.due("between(-3, 6)", hall.between(-3, 6), 4);
    C.due("between(5, 5)", hall.between(5, 5), 0);
    C.due("between(100000, MOST)", hall.between(100000, MOST), 1);
    C.refuses("between(6, 5)", Checks.ARGUMENT, () -> hall.between(6, 5));
    C.refuses("between(MOST, LEAST)", Checks.ARGUMENT, () -> hall.between(MOST, LEAST));
    hall.leave(4);
    C.due("above(5)", hall.above(5), 0);
  }

  // Promise 24.
  private static void pointsInTheOrderOfComing() {
    StandingsHall hall = hall(0, 0, 0, 0);
    C.due("withAt(0, 0)", hall.withAt(0, 0), 0);
    hall.score(1, 0, 4);
    hall.score(1, 0, -4);
    int[] want = {0, 2, 3, 1};
    for (int i = 0; i < 4; i++) {
      C.due("withAt(0, " + i + ")", hall.withAt(0, i), want[i]);
    }
    hall.setScore(0, 0, 0);
    hall.score(2, 0, 0);
    hall.score(0, 1, 5);
    C.due("the same number is no coming", hall.withAt(0, 0), 0);
    C.due("the same number is no coming", hall.withAt(0, 1), 2);
    C.due("who comes has 0", hall.come(2), 4);
    C.due("withAt(0, 4)", hall.withAt(0, 4), 4);
    C.due("withAt(0, 5)", hall.withAt(0, 5), -1);
    C.due("withAt(0, -1)", hall.withAt(0, -1), -1);
    C.due("withAt(0, LEAST)", hall.withAt(0, LEAST), -1);
    C.due("withAt(0, MOST)", hall.withAt(0, MOST), -1);
    C.due("withAt(1, 0)", hall.withAt(1, 0), -1);
    hall.leave(2);
    C.due("withAt(0, 1)", hall.withAt(0, 1), 3);
    hall.setScore(3, 0, -9);
    hall.setScore(0, 0, -9);
    C.due("withAt(-9, 0)", hall.withAt(-9, 0), 3);
    C.due("withAt(-9, 1)", hall.withAt(-9, 1), 0);
    C.due("the standing is by number", hall.place(0) - hall.place(3), -1);
  }

  // Promises 27, 28.
  private static void quantiles() {
    StandingsHall hall = hall(50, 10, 40, 20, 30);
    C.due("median(false) of 5", hall.median(false), 30);
    C.due("median(true) of 5", hall.median(true), 30);
    hall.come(0);
    C.due("median(false) of 6", hall.median(false), 20);
    C.due("median(true) of 6", hall.median(true), 30);
    int[][] want = {{0, 1, 0}, {0, 100, 0}, {1, 100, 0}, {1, 6, 0}, {1, 5, 10}, {2, 6, 10},
        {34, 100, 20}, {1, 2, 20}, {50, 100, 20}, {51, 100, 30}, {2, 3, 30}, {5, 6, 40},
        {84, 100, 50}, {1, 1, 50}, {100, 100, 50}};
    for (int[] one : want) {
      C.due("quantile(" + one[0] + ", " + one[1] + ")", hall.quantile(one[0], one[1]), one[2]);
    }
    int[][] wrong = {{1, 0}, {0, 0}, {-1, 5}, {6, 5}, {0, 101}, {1, -1}, {LEAST, 1}, {1, LEAST},
        {MOST, MOST}, {-1, -1}};
    for (int[] one : wrong) {
      C.refuses("quantile(" + one[0] + ", " + one[1] + ")", Checks.ARGUMENT,
          () -> hall.quantile(one[0], one[1]));
      C.refuses("quantile of nobody", Checks.ARGUMENT, () -> hall().quantile(one[0], one[1]));
    }
    C.refuses("quantile of nobody", Checks.ELEMENT, () -> hall().quantile(1, 2));
    C.refuses("median of nobody", Checks.ELEMENT, () -> hall().median(true));
    C.refuses("median of nobody", Checks.ELEMENT, () -> hall().median(false));
    StandingsHall one = hall(-7);
    C.due("median(false) of 1", one.median(false), -7);
    C.due("median(true) of 1", one.median(true), -7);
    C.due("quantile(0, 9) of 1", one.quantile(0, 9), -7);
  }

  // Promises 29, 34, 35.
  private static void entering() {
    StandingsHall hall = hall(1, 2, 3, 4);
    C.due("ladderPlace(2)", hall.ladderPlace(2), -1);
    C.due("enter(2)", hall.enter(2), 1);
    C.due("enter(0)", hall.enter(0), 2);
    C.due("enter(3)", hall.enter(3), 3);
    ladder("entered", hall, 2, 0, 3);
    C.refuses("enter(0)", Checks.STATE, () -> hall.enter(0));
    C.refuses("enter(4)", Checks.BOUNDS, () -> hall.enter(4));
    C.refuses("enter(-1)", Checks.BOUNDS, () -> hall.enter(-1));
    C.due("ladderPlace(1)", hall.ladderPlace(1), -1);
    C.refuses("ladderPlace(4)", Checks.BOUNDS, () -> hall.ladderPlace(4));
    C.refuses("ladderAt(0)", Checks.BOUNDS, () -> hall.ladderAt(0));
    C.refuses("ladderAt(LEAST)", Checks.BOUNDS, () -> hall.ladderAt(LEAST));
    C.refuses("ladderAt(MOST)", Checks.BOUNDS, () -> hall.ladderAt(MOST));
    hall.leave(2);
    C.refuses("enter(2)", Checks.BOUNDS, () -> hall.enter(2));
    C.refuses("ladderPlace(2)", Checks.BOUNDS, () -> hall.ladderPlace(2));
    ladder("one has left", hall, 0, 3);
    C.due("enter(1)", hall.enter(1), 3);
  }

  // Promises 30 to 33.
  private static void challenges() {
    StandingsHall hall = hall(0, 0, 0, 0, 0, 0, 0);
    for (int i = 0; i < 6; i++) {
      hall.enter(i);
    }
    int[] may = {0, 1, 2, 2, 2, 2, 0};
    for (int i = 0; i < 7; i++) {
      C.due("mayChallenge(" + i + ")", hall.mayChallenge(i), may[i]);
    }
    C.refuses("mayChallenge(7)", Checks.BOUNDS, () -> hall.mayChallenge(7));
    C.due("a loss", hall.challenge(3, 1, false), 4);
    ladder("a loss", hall, 0, 1, 2, 3, 4, 5);
    C.due("a win", hall.challenge(3, 1, true), 2);
    ladder("a win", hall, 0, 3, 1, 2, 4, 5);
    C.refuses("too far", Checks.STATE, () -> hall.challenge(2, 0, true));
    C.refuses("itself", Checks.STATE, () -> hall.challenge(2, 2, true));
    C.refuses("one below", Checks.STATE, () -> hall.challenge(3, 1, true));
    C.refuses("not in the ladder", Checks.STATE, () -> hall.challenge(6, 0, true));
    C.refuses("not in the ladder", Checks.STATE, () -> hall.challenge(0, 6, true));
    C.refuses("not there", Checks.BOUNDS, () -> hall.challenge(6, 7, true));
    C.refuses("not there", Checks.BOUNDS, () -> hall.challenge(-1, 6, true));
    C.due("setReach(5)", hall.setReach(5), 2);
    C.due("mayChallenge(5)", hall.mayChallenge(5), 5);
    C.due("a win", hall.challenge(5, 0, true), 1);
    ladder("a win", hall, 5, 0, 3, 1, 2, 4);
    C.due("setReach(1)", hall.setReach(1), 5);
    C.refuses("too far", Checks.STATE, () -> hall.challenge(3, 5, true));
    C.due("mayChallenge(4)", hall.mayChallenge(4), 1);
    C.due("a win", hall.challenge(0, 5, true), 1);
    int[] wrong = {0, -1, 6, LEAST, MOST};
    for (int reach : wrong) {
      C.refuses("setReach(" + reach + ")", Checks.ARGUMENT, () -> hall.setReach(reach));
    }
    C.due("setReach(2)", hall.setReach(2), 1);
    int[] wrongRounds = {0, -1, 10, LEAST, MOST};
    for (int rounds : wrongRounds) {
      C.refuses("setPatience(" + rounds + ")", Checks.ARGUMENT, () -> hall.setPatience(rounds));
    }
    C.due("setPatience(9)", hall.setPatience(9), 3);
    C.due("setPatience(1)", hall.setPatience(1), 9);
    C.due("setPatience(3)", hall.setPatience(3), 1);
  }

  // Promise 36, section 4: who falls at the end of a round.
  private static void falling() {
    StandingsHall hall = hall(0, 0, 0, 0);
    for (int i = 0; i < 4; i++) {
      hall.enter(i);
    }
    hall.endRound();
    hall.endRound();
    ladder("two rounds are too few", hall, 0, 1, 2, 3);
    C.due("endRound()", hall.endRound(), 2);
    // 3 is the lowest one; 2 falls below it, then 1 below it, then 0.
    ladder("from the lowest one up", hall, 3, 0, 1, 2);
    hall.challenge(1, 3, false);
    hall.endRound();
    ladder("those that played stay", hall, 3, 1, 0, 2);
    hall.setPatience(1);
    hall.challenge(1, 3, true);
    ladder("a win", hall, 1, 3, 0, 2);
    hall.endRound();
    ladder("0 falls, 3 and 1 have played", hall, 1, 3, 2, 0);
    hall.setPatience(2);
    hall.endRound();
    ladder("2 falls; 1 and 3 played one round ago", hall, 1, 3, 0, 2);
    hall.leave(3);
    hall.leave(0);
    hall.leave(2);
    hall.endRound();
    ladder("a ladder of one", hall, 1);
  }

  // Promise 36: the round of entering counts; a challenge that is lost counts for both.
  private static void fallingLater() {
    StandingsHall hall = hall(0, 0, 0);
    hall.endRound();
    hall.setPatience(2);
    hall.enter(0);
    hall.endRound();
    hall.enter(1);
    hall.endRound();
    ladder("0 was in it for two rounds", hall, 1, 0);
    hall.enter(2);
    hall.endRound();
    ladder("0 falls below 2, then 1 does", hall, 2, 1, 0);
    hall.challenge(1, 2, false);
    hall.endRound();
    ladder("both have played", hall, 2, 1, 0);
    hall.endRound();
    ladder("both have played a round ago", hall, 2, 1, 0);
    hall.endRound();
    ladder("both have not played for two rounds", hall, 0, 2, 1);
    StandingsHall late = hall(0, 0);
    for (int i = 0; i < 4; i++) {
      late.endRound();
    }
    late.enter(0);
    late.enter(1);
    late.endRound();
    late.endRound();
    ladder("two rounds in the ladder", late, 0, 1);
    late.endRound();
    ladder("three rounds in the ladder", late, 1, 0);
    StandingsHall early = hall(0, 0);
    early.setPatience(9);
    early.enter(0);
    early.enter(1);
    for (int i = 0; i < 8; i++) {
      early.endRound();
    }
    ladder("eight rounds of nine", early, 0, 1);
    early.endRound();
    ladder("nine rounds of nine", early, 1, 0);
  }

  // Promises 36, 37, 38.
  private static void rounds() {
    StandingsHall hall = hall(5, 0);
    C.due("gain(0)", hall.gain(0), 5);
    hall.setScore(0, 0, 1);
    C.due("gain(0)", hall.gain(0), 1);
    hall.score(0, 1, 40);
    hall.score(1, 0, -6);
    C.due("gain(0)", hall.gain(0), 1);
    C.due("gain(1)", hall.gain(1), -6);
    C.refuses("gain(2)", Checks.BOUNDS, () -> hall.gain(2));
    C.refuses("gain(-1)", Checks.BOUNDS, () -> hall.gain(-1));
    C.due("endRound()", hall.endRound(), 0);
    C.due("gain(0)", hall.gain(0), 0);
    C.due("gain(1)", hall.gain(1), 0);
    C.due("round()", hall.round(), 1);
    hall.come(1);
    C.due("gain(2)", hall.gain(2), 0);
    C.refuses("score over", Checks.ARGUMENT, () -> hall.score(0, 0, 100000));
    C.due("gain(0)", hall.gain(0), 0);
    for (int i = 1; i < 200; i++) {
      C.due("endRound()", hall.endRound(), i);
    }
    C.due("round()", hall.round(), 200);
    C.refuses("endRound over 200", Checks.STATE, hall::endRound);
    C.due("round()", hall.round(), 200);
    C.due("placeThen(199, 0)", hall.placeThen(199, 0), 1);
  }

  // Promises 39, 40.
  private static void forms() {
    StandingsHall hall = hall(0, 0);
    int[] gains = {100, -8, 3, 7, -1, 0, 2, 7, -5, 4, 1};
    for (int i = 0; i < gains.length; i++) {
      if (i == 5) {
        hall.come(0);
        hall.score(2, 0, -50);
      }
      hall.score(0, 0, gains[i]);
      hall.endRound();
    }
    int[][] want = {{1, 1, 1}, {1, 2, 4}, {2, 2, 5}, {2, 3, 5}, {3, 3, 0}, {1, 10, 7}, {2, 10, 14},
        {3, 10, 18}, {4, 10, 21}, {6, 10, 24}, {7, 10, 24}, {8, 10, 23}, {9, 10, 18},
        {10, 10, 10}};
    for (int[] one : want) {
      C.due("form(0, " + one[0] + ", " + one[1] + ")", hall.form(0, one[0], one[1]), one[2]);
    }
    C.due("form(2, 9, 10)", hall.form(2, 9, 10), 0);
    C.due("form(2, 10, 10)", hall.form(2, 10, 10), -50);
    C.due("form(2, 5, 5)", hall.form(2, 5, 5), 0);
    hall.score(1, 0, 200);
    C.due("the present round does not count", hall.form(1, 10, 10), 0);
    C.due("inForm(1, 1)", hall.inForm(1, 1), 0);
    C.due("inForm(3, 3): alike, 1 stands before", hall.inForm(3, 3), 1);
    hall.score(0, 0, 200);
    C.due("inForm(3, 3): alike, 0 stands before", hall.inForm(3, 3), 0);
    hall.score(1, 0, -500);
    hall.score(0, 0, -700);
    hall.endRound();
    C.due("inForm below 0", hall.inForm(1, 1), 2);
    hall.leave(2);
    C.due("inForm below 0", hall.inForm(1, 1), 1);
    int[][] wrong = {{0, 1}, {2, 1}, {1, 0}, {0, 0}, {1, 11}, {11, 11}, {-1, 3}, {1, -1},
        {LEAST, 1}, {MOST, MOST}, {1, LEAST}};
    for (int[] one : wrong) {
      C.refuses("form of no rounds", Checks.ARGUMENT, () -> hall.form(0, one[0], one[1]));
      C.refuses("form of nobody", Checks.BOUNDS, () -> hall.form(2, one[0], one[1]));
      C.refuses("inForm of no rounds", Checks.ARGUMENT, () -> hall.inForm(one[0], one[1]));
      C.refuses("inForm of nobody", Checks.ARGUMENT, () -> hall().inForm(one[0], one[1]));
    }
    C.refuses("inForm of nobody", Checks.ELEMENT, () -> hall().inForm(1, 1));
    StandingsHall rising = hall(9, 7, 8);
    rising.endRound();
    C.due("inForm(1, 1): the greatest, not the latest", rising.inForm(1, 1), 0);
    rising.setScore(0, 0, 0);
    C.due("inForm(1, 1): the greatest, not the first", rising.inForm(1, 1), 0);
    C.due("form with no round over", hall(9).form(0, 10, 10), 0);
    StandingsHall fallen = hall(-4);
    fallen.endRound();
    C.due("rounds without records count 0", fallen.form(0, 1, 2), 0);
    C.due("rounds without records count 0", fallen.form(0, 2, 2), -4);
  }

  // Promises 41, 42.
  private static void recordedStandings() {
    StandingsHall hall = hall(3, 2, 1);
    C.refuses("placeThen(0, 0)", Checks.ELEMENT, () -> hall.placeThen(0, 0));
    C.refuses("climb(0)", Checks.ELEMENT, () -> hall.climb(0));
    hall.endRound();
    C.due("climb(0)", hall.climb(0), 0);
    hall.come(3);
    hall.setScore(2, 0, 9);
    hall.setScore(3, 0, 8);
    hall.endRound();
    int[][] want = {{1, 2, 3, -1, -1}, {3, 4, 1, 2, -1}};
    for (int round = 0; round < 2; round++) {
      for (int i = 0; i < 5; i++) {
        C.due("placeThen(" + round + ", " + i + ")", hall.placeThen(round, i), want[round][i]);
      }
    }
    C.due("placeThen(0, 29)", hall.placeThen(0, 29), -1);
    C.refuses("placeThen(0, 30)", Checks.ARGUMENT, () -> hall.placeThen(0, 30));
    C.refuses("placeThen(0, -1)", Checks.ARGUMENT, () -> hall.placeThen(0, -1));
    C.refuses("placeThen(2, 30)", Checks.ELEMENT, () -> hall.placeThen(2, 30));
    C.refuses("placeThen(-1, 0)", Checks.ELEMENT, () -> hall.placeThen(-1, 0));
    C.refuses("climb(-1)", Checks.ELEMENT, () -> hall.climb(-1));
    C.refuses("climb(MOST)", Checks.ELEMENT, () -> hall.climb(MOST));
    C.refuses("climb(LEAST)", Checks.ELEMENT, () -> hall.climb(LEAST));
    C.due("climb(0)", hall.climb(0), 2);
    hall.leave(2);
    C.due("placeThen of one that has left", hall.placeThen(0, 2), 3);
    C.due("climb without it", hall.climb(0), -1);
    C.due("climb(1)", hall.climb(1), 1);
    hall.endRound();
    C.due("placeThen of one that had left", hall.placeThen(2, 2), -1);
    hall.leave(0);
    hall.leave(1);
    C.due("climb(0) without any", hall.climb(0), 0);
    hall.leave(3);
    C.due("climb(1) without any", hall.climb(1), 0);
    for (int i = 3; i < 20; i++) {
      hall.endRound();
    }
    C.due("twenty are kept", hall.placeThen(0, 1), 2);
    hall.endRound();
    C.refuses("only twenty are kept", Checks.ELEMENT, () -> hall.placeThen(0, 1));
    C.refuses("only twenty are kept", Checks.ELEMENT, () -> hall.climb(0));
    C.refuses("only twenty are kept", Checks.ELEMENT, () -> hall.inversions(0, -1));
    C.due("twenty are kept", hall.placeThen(1, 1), 4);
    C.due("the latest one", hall.placeThen(20, 1), -1);
  }

  // Promises 43 to 46.
  private static void groups() {
    StandingsHall hall = new StandingsHall();
    int[] groups = {0, 0, 0, 1, 1, 1, 1, 3, 3, 4};
    int[] points = {9, 8, 1, 7, 6, 5, 4, 3, 2, 0};
    for (int i = 0; i < 10; i++) {
      hall.come(groups[i]);
      hall.setScore(i, 0, points[i]);
    }
    int[][] want = {{0, 3, 12}, {3, 4, 12}, {-1, 0, -1}, {7, 2, -1}, {9, 1, -1}};
    for (int group = 0; group < 5; group++) {
      C.due("best(" + group + ")", hall.best(group), want[group][0]);
      C.due("members(" + group + ")", hall.members(group), want[group][1]);
      C.due("teamScore(" + group + ")", hall.teamScore(group), want[group][2]);
    }
    C.due("groupAt(1)", hall.groupAt(1), 0);
    C.due("groupAt(2)", hall.groupAt(2), 1);
    int[] places = {0, -1, 3, LEAST, MOST};
    for (int place : places) {
      C.refuses("groupAt(" + place + ")", Checks.BOUNDS, () -> hall.groupAt(place));
    }
    hall.setScore(6, 0, 10);
    C.due("best(1)", hall.best(1), 6);
    C.due("teamScore(1)", hall.teamScore(1), 10);
    C.due("teamScore(0)", hall.teamScore(0), 14);
    C.due("groupAt(1)", hall.groupAt(1), 1);
    C.due("groupAt(2)", hall.groupAt(2), 0);
    hall.leave(6);
    hall.leave(2);
    C.due("teamScore(0)", hall.teamScore(0), -1);
    C.due("members(0)", hall.members(0), 2);
    C.due("teamScore(1)", hall.teamScore(1), 12);
    C.due("groupAt(1)", hall.groupAt(1), 1);
    C.refuses("groupAt(2)", Checks.BOUNDS, () -> hall.groupAt(2));
    hall.leave(9);
    C.due("best(4)", hall.best(4), -1);
    C.due("members(4)", hall.members(4), 0);
    int[] wrong = {-1, 5, LEAST, MOST};
    for (int group : wrong) {
      C.refuses("best(" + group + ")", Checks.ARGUMENT, () -> hall.best(group));
      C.refuses("members(" + group + ")", Checks.ARGUMENT, () -> hall.members(group));
      C.refuses("teamScore(" + group + ")", Checks.ARGUMENT, () -> hall.teamScore(group));
    }
  }

  private static void groupsOfTheSameScore() {
    // Group 3 has the places 1, 5 and 6, group 0 the places 2, 3 and 7.
    StandingsHall hall = new StandingsHall();
    int[] groups = {3, 0, 0, 2, 3, 3, 0};
    for (int i = 0; i < 7; i++) {
      hall.come(groups[i]);
    }
    C.due("teamScore(0)", hall.teamScore(0), 12);
    C.due("teamScore(3)", hall.teamScore(3), 12);
    C.due("groupAt(1): its best is ahead", hall.groupAt(1), 3);
    C.due("groupAt(2)", hall.groupAt(2), 0);
    StandingsHall five = new StandingsHall();
    for (int i = 0; i < 15; i++) {
      five.come(4 - i / 3);
    }
    for (int place = 1; place <= 5; place++) {
      C.due("groupAt(" + place + ")", five.groupAt(place), 5 - place);
    }
  }

  // Promises 47, 48.
  private static void apart() {
    StandingsHall hall = hall(5, 4, 3, 2, 1);
    C.due("inversions(-1, -1)", hall.inversions(-1, -1), 0);
    hall.endRound();
    hall.setScore(4, 0, 9);
    hall.setScore(0, 0, 0);
    hall.endRound();
    // Round 0: 0 1 2 3 4; round 1: 4 1 2 3 0.
    int[][] want = {{0, 0, 0}, {0, 1, 7}, {1, 0, 7}, {1, -1, 0}, {-1, 0, 7}};
    for (int[] one : want) {
      C.due("inversions", hall.inversions(one[0], one[1]), one[2]);
      C.due("swaps", hall.swaps(one[0], one[1]), one[2]);
    }
    hall.leave(2);
    hall.come(0);
    hall.setScore(5, 0, 100);
    C.due("those alone that are in both", hall.inversions(0, -1), 5);
    C.due("those alone that are in both", hall.swaps(-1, 0), 5);
    C.due("recorded ones stay", hall.inversions(0, 1), 7);
    int[][] wrong = {{2, 0}, {0, 2}, {-2, -1}, {-1, -2}, {LEAST, 0}, {0, MOST}};
    for (int[] one : wrong) {
      C.refuses("inversions", Checks.ELEMENT, () -> hall.inversions(one[0], one[1]));
      C.refuses("swaps", Checks.ELEMENT, () -> hall.swaps(one[0], one[1]));
    }
    int[] rising = new int[30];
    for (int i = 0; i < 30; i++) {
      rising[i] = i;
    }
    StandingsHall all = hall(rising);
    all.endRound();
    Tapes.order(all, "<a");
    C.due("all the other way round", all.inversions(0, -1), 435);
    C.due("all the other way round", all.swaps(0, -1), 435);
    for (int i = 0; i < 30; i++) {
      all.leave(i);
    }
    C.due("nobody in both", all.inversions(0, -1), 0);
    C.due("nobody in both", all.swaps(-1, 0), 0);
  }

  // Promises 49, 50, 51.
  private static void figures() {
    StandingsHall hall = hall(5, -2, 7);
    C.due("meanPoints()", hall.meanPoints(), 10.0 / 3.0);
    C.due("beats(2)", hall.beats(2), 1.0);
    C.due("beats(0)", hall.beats(0), 0.5);
    C.due("beats(1)", hall.beats(1), 0.0);
    hall.come(0);
    hall.setScore(3, 0, 5);
    C.due("beats(0): alike ones are not beaten", hall.beats(0), (float) 1 / (float) 3);
    C.due("beats(3)", hall.beats(3), 0.33333334f);
    C.due("meanPoints()", hall.meanPoints(), 3.75);
    C.refuses("beats(4)", Checks.BOUNDS, () -> hall.beats(4));
    C.refuses("beats(-1)", Checks.BOUNDS, () -> hall.beats(-1));
    C.due("beats without others", hall(4).beats(0), 0.0);
    C.due("meanPoints of one", hall(-100000).meanPoints(), -100000.0);
    C.due("meanPoints below 0", hall(-1, 0, 0).meanPoints(), -1.0 / 3.0);
    Tapes.order(hall, "<a;>b");
    C.due("beats(1) by <a", hall.beats(1), 1.0);
    C.due("errors()", hall.errors(), 0);
    hall.leave(1);
    C.due("errors()", hall.errors(), 0);
    C.due("meanPoints()", hall.meanPoints(), 17.0 / 3.0);
  }

  // Section 9: a call that throws an exception changes nothing.
  private static void refusedCalls() {
    StandingsHall hall = hall(5, 9, 5);
    hall.enter(0);
    hall.enter(1);
    C.refuses("setScore over", Checks.ARGUMENT, () -> hall.setScore(0, 0, 100001));
    C.refuses("score over", Checks.ARGUMENT, () -> hall.score(2, 0, 100000));
    C.refuses("challenge", Checks.STATE, () -> hall.challenge(0, 1, true));
    C.refuses("enter", Checks.STATE, () -> hall.enter(1));
    C.refuses("come", Checks.ARGUMENT, () -> hall.come(9));
    C.refuses("setPatience", Checks.ARGUMENT, () -> hall.setPatience(0));
    row("nothing is changed", hall, 1, 0, 2);
    ladder("nothing is changed", hall, 0, 1);
    C.due("withAt(5, 0)", hall.withAt(5, 0), 0);
    C.due("gain(0)", hall.gain(0), 5);
    C.due("setPatience(1)", hall.setPatience(1), 3);
    hall.endRound();
    ladder("a refused challenge is no playing", hall, 1, 0);
  }
}
