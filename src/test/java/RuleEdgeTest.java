/** The edges that "5 RULES" names, sentence by sentence, with promises 9, 26 to 31 and 33. */
public final class RuleEdgeTest extends Check {
  private static final int COUNT = 0;
  private static final int SUM = 1;
  private static final int LAST = 5;

  private static final int CALM = 0;
  private static final int STIRRED = 1;
  private static final int FIRING = 2;

  public static void main(String[] args) {
    numberedFrom0();
    calmAtFirst();
    shortestAndLongestWindow();
    windowEdge();
    limitAbove();
    limitBelow();
    limitsFarOff();
    nothingHoldsNot();
    everyEdge();
    leastTimes();
    mostTimes();
    stirredBreaks();
    firingHoldsOn();
    firingCeases();
    whatIsNoEvent();
    fillOfQuery();
    rolledUpFirst();
    rulesByNumbers();
    twentyEvents();
    seenNow();
    eachIsTold();
    firesInEdge();
    firesInTheFirst();
    firesInAgain();
    firesInByPoints();
    firesInByBuckets();
    firesInChangesNothing();
    firesInAsItComes();
    goOnByMany();
    end("edges of rules");
  }

  private static void stateIs(String what, MeridianSeries x, int rule, int state, int inRow) {
    is(what + ": state", x.stateOf(rule), state);
    is(what + ": in a row", x.inRow(rule), inRow);
  }

  private static void eventIs(String what, MeridianSeries x, int back, int now, int rule, int state) {
    is(what + ": NOW as it was", x.event(back, 0), now);
    is(what + ": the RULE", x.event(back, 1), rule);
    is(what + ": the state", x.event(back, 2), state);
  }

  /** "At most 8, numbered from 0", also over several series. */
  private static void numberedFrom0() {
    MeridianSeries x = mixedStore();
    for (int i = 3; i < 8; i++) {
      is("26 its number", x.addRule(i % 3, COUNT, 1, 1, true, 0, 1), i);
    }
    refuses(x, "26 a ninth", STATE, y -> y.addRule(0, COUNT, 1, 1, true, 0, 1));
  }

  /** "it is CALM (0, at first), STIRRED (1) or FIRING (2), with a number of times in a row (0, at first)" */
  private static void calmAtFirst() {
    MeridianSeries x = storeAt(10);
    x.put(0, 9, 5);
    x.addRule(0, COUNT, 5, 1, true, 0, 1);
    stateIs("26 though it would hold", x, 0, CALM, 0);
    is("30 no event by adding it", x.events(), 0);
  }

  /** "a LENGTH, 1 to 500" */
  private static void shortestAndLongestWindow() {
    MeridianSeries x = storeAt(10);
    x.put(0, 10, 1);
    x.addRule(0, COUNT, 1, 1, true, 0, 1);
    x.addRule(0, COUNT, 500, 1, true, 0, 1);
    is("29 10 is not below NOW 10", x.seenBy(0), 0);
    is("29 10 is not below NOW 10", x.seenBy(1), 0);
    x.goOn(1);
    is("29 length 1 at 11", x.seenBy(0), 1);
    is("29 length 500 at 11", x.seenBy(1), 1);
    x.goOn(1);
    is("29 length 1 at 12", x.seenBy(0), 0);
    goOnTo(x, 510);
    is("29 length 500 at 510", x.seenBy(1), 1);
    stateIs("27 length 500 at 510", x, 1, FIRING, 0);
    x.goOn(1);
    is("29 length 500 at 511", x.seenBy(1), 0);
    stateIs("27 length 500 at 511", x, 1, CALM, 0);
  }

  /** "the WINDOW from NOW - LENGTH up to, but without, NOW": below 0, too. */
  private static void windowEdge() {
    MeridianSeries x = storeAt(3);
    x.put(0, 0, 4);
    x.put(0, 3, 5);
    x.addRule(0, SUM, 10, 1, true, -1, 1);
    is("29 from -7 up to 2", x.seenBy(0), 4);
    x.goOn(1);
    is("29 from -6 up to 3", x.seenBy(0), 9);
    x.goOn(6);
    is("29 from 0 up to 9", x.seenBy(0), 9);
    x.goOn(1);
    is("29 from 1 up to 10", x.seenBy(0), 5);
    x.put(0, 11, 100);
    is("29 11 is not in it at 11", x.seenBy(0), 5);
    x.goOn(2);
    is("29 from 3 up to 12", x.seenBy(0), 105);
    x.goOn(1);
    is("29 from 4 up to 13", x.seenBy(0), 100);
  }

  /** The state of a rule of the greatest window behind one step, with this one value told. */
  private static int stateBy(int value, boolean isAbove, int limit) {
    MeridianSeries x = storeAt(10);
    x.put(0, 10, value);
    x.addRule(0, LAST, 5, 1, isAbove, limit, 1);
    x.goOn(1);
    return x.stateOf(0);
  }

  /** "it is above LIMIT": not at it. */
  private static void limitAbove() {
    for (int limit : new int[] {-99999, -1, 0, 1, 50, 99999}) {
      is("27 one below the limit " + limit, stateBy(limit - 1, true, limit), CALM);
      is("27 at the limit " + limit, stateBy(limit, true, limit), CALM);
      is("27 one above the limit " + limit, stateBy(limit + 1, true, limit), FIRING);
    }
  }

  /** "(or below LIMIT, if the RULE is for such numbers)": not at it. */
  private static void limitBelow() {
    for (int limit : new int[] {-99999, -1, 0, 1, 50, 99999}) {
      is("27 one above the limit " + limit, stateBy(limit + 1, false, limit), CALM);
      is("27 at the limit " + limit, stateBy(limit, false, limit), CALM);
      is("27 one below the limit " + limit, stateBy(limit - 1, false, limit), FIRING);
    }
  }

  /** A store whose points from 10 on have this SUM, at NOW 99. */
  private static MeridianSeries storeOfSum(int sum) {
    MeridianSeries x = storeAt(99);
    int rest = sum;
    for (int time = 10; rest != 0; time++) {
      int value = Math.max(-100000, Math.min(100000, rest));
      x.put(0, time, value);
      rest -= value;
    }
    return x;
  }

  private static int stateBySum(int sum, boolean isAbove, int limit) {
    MeridianSeries x = storeOfSum(sum);
    x.addRule(0, SUM, 100, 1, isAbove, limit, 1);
    x.goOn(1);
    return x.stateOf(0);
  }

  /** LIMITS of 1000000 and -1000000 are limits like the others. */
  private static void limitsFarOff() {
    is("27 1000000 is not above 1000000", stateBySum(1000000, true, 1000000), CALM);
    is("27 1000001 is above 1000000", stateBySum(1000001, true, 1000000), FIRING);
    is("27 999999 is below 1000000", stateBySum(999999, false, 1000000), FIRING);
    is("27 1000000 is not below 1000000", stateBySum(1000000, false, 1000000), CALM);
    is("27 -1000001 is below -1000000", stateBySum(-1000001, false, -1000000), FIRING);
    is("27 -1000001 is not above -1000000", stateBySum(-1000001, true, -1000000), CALM);
    is("27 -999999 is above -1000000", stateBySum(-999999, true, -1000000), FIRING);
    is("27 -999999 is not below -1000000", stateBySum(-999999, false, -1000000), CALM);
  }

  /** "it HOLDS, if what is told is not NOTHING": a gap, and a SUM that is -1000000; but COUNT is 0. */
  private static void nothingHoldsNot() {
    is("27 -1000000 does not hold, below 0", stateBySum(-1000000, false, 0), CALM);
    is("27 -1000000 does not hold, below 1000000", stateBySum(-1000000, false, 1000000), CALM);
    is("27 -1000001 holds", stateBySum(-1000001, false, 0), FIRING);
    is("27 -999999 holds", stateBySum(-999999, false, 0), FIRING);
    is("27 -1000000 does not hold, above -1000000", stateBySum(-1000000, true, -1000000), CALM);
    for (int what = 0; what < 8; what++) {
      MeridianSeries x = storeAt(10);
      x.addRule(0, what, 5, 1, false, 1000000, 1);
      is("9 a gap, told " + what, x.goOn(3), what == COUNT ? 1 : 0);
      is("29 a gap, told " + what, x.seenBy(0), what == COUNT ? 0 : NOTHING);
      stateIs("27 a gap, told " + what, x, 0, what == COUNT ? FIRING : CALM, 0);
    }
  }

  /** "each RULE .. of which NOW is a multiple of EVERY": 1 to 60. */
  private static void everyEdge() {
    for (int every : new int[] {1, 2, 7, 59, 60}) {
      MeridianSeries x = storeAt(every);
      x.addRule(0, COUNT, 1, every, false, 1, 1);
      for (int i = 1; i < every; i++) {
        is("9 not at " + (every + i) + " with every " + every, x.goOn(1), 0);
      }
      stateIs("27 not looked at", x, 0, CALM, 0);
      is("9 at twice every " + every, x.goOn(1), 1);
      stateIs("27 looked at", x, 0, FIRING, 0);
      eventIs("31 every " + every, x, 0, 2 * every, 0, FIRING);
    }
  }

  /** TIMES 1: CALM, STIRRED and FIRING in one look; and CALM by the first that does not hold. */
  private static void leastTimes() {
    MeridianSeries x = storeAt(10);
    x.put(0, 10, 1);
    x.addRule(0, COUNT, 1, 1, true, 0, 1);
    is("9 one event, none for STIRRED", x.goOn(1), 1);
    stateIs("27 FIRING at once", x, 0, FIRING, 0);
    is("9 one event", x.goOn(1), 1);
    stateIs("27 CALM at once", x, 0, CALM, 0);
    is("9 none", x.goOn(50), 0);
  }

  /** TIMES 5: the fifth that HOLDS, and the fifth that does not. */
  private static void mostTimes() {
    MeridianSeries x = storeAt(10);
    x.putRow(0, 6, 1, 1, 0, 5);
    x.addRule(0, COUNT, 5, 1, true, 0, 5);
    for (int i = 1; i < 5; i++) {
      is("9 no event", x.goOn(1), 0);
      stateIs("27 STIRRED by " + i, x, 0, STIRRED, i);
    }
    is("9 the fifth one", x.goOn(1), 1);
    stateIs("27 FIRING", x, 0, FIRING, 0);
    for (int i = 1; i < 5; i++) {
      is("9 no event", x.goOn(1), 0);
      stateIs("27 FIRING still by " + i, x, 0, FIRING, i);
    }
    is("9 the fifth one", x.goOn(1), 1);
    stateIs("27 CALM", x, 0, CALM, 0);
    eventIs("31 CALM", x, 0, 20, 0, CALM);
    eventIs("31 FIRING", x, 1, 15, 0, FIRING);
  }

  /** "STIRRED: if it HOLDS, the number is 1 more, otherwise it is CALM, with the number 0." */
  private static void stirredBreaks() {
    MeridianSeries x = storeAt(10);
    x.putRow(0, 7, 1, 1, 0, 4);
    x.addRule(0, COUNT, 4, 1, true, 0, 5);
    x.goOn(4);
    stateIs("27 one short of 5", x, 0, STIRRED, 4);
    is("9 no event", x.goOn(1), 0);
    stateIs("27 CALM again", x, 0, CALM, 0);
    x.put(0, 15, 1);
    x.goOn(1);
    stateIs("27 from 1 on again", x, 0, STIRRED, 1);
    is("30 no event at all", x.events(), 0);
  }

  /** "FIRING: if it HOLDS, the number is 0" */
  private static void firingHoldsOn() {
    MeridianSeries x = storeAt(10);
    x.put(0, 10, 1);
    x.addRule(0, COUNT, 2, 1, true, 0, 2);
    x.goOn(2);
    stateIs("27 FIRING", x, 0, FIRING, 0);
    x.goOn(1);
    stateIs("27 one that does not hold", x, 0, FIRING, 1);
    x.put(0, 13, 1);
    is("9 no event as it holds again", x.goOn(1), 0);
    stateIs("27 the number is 0 again", x, 0, FIRING, 0);
    is("9 and as it holds on", x.goOn(1), 0);
    stateIs("27 the number is 0 still", x, 0, FIRING, 0);
    x.goOn(1);
    stateIs("27 one that does not hold", x, 0, FIRING, 1);
    is("9 two that do not hold", x.goOn(1), 1);
    stateIs("27 CALM", x, 0, CALM, 0);
  }

  /** What holds not: at the limit, on its other side, and NOTHING. */
  private static void firingCeases() {
    MeridianSeries x = storeAt(10);
    x.put(0, 10, 9);
    x.addRule(0, LAST, 2, 1, true, 5, 3);
    x.put(0, 9, 6);
    x.goOn(2);
    x.put(0, 11, 6);
    x.goOn(1);
    stateIs("27 FIRING", x, 0, FIRING, 0);
    x.put(0, 13, 5);
    x.goOn(1);
    stateIs("27 at the limit", x, 0, FIRING, 1);
    x.put(0, 14, 4);
    x.goOn(1);
    stateIs("27 below it", x, 0, FIRING, 2);
    is("29 there will be nothing", x.seenBy(0), 4);
    is("9 below it once more", x.goOn(1), 1);
    stateIs("27 CALM", x, 0, CALM, 0);
    x.goOn(1);
    is("29 nothing", x.seenBy(0), NOTHING);
    stateIs("27 CALM still", x, 0, CALM, 0);
  }

  /** "As it becomes FIRING, or CALM from FIRING, that is an EVENT." */
  private static void whatIsNoEvent() {
    MeridianSeries x = storeAt(10);
    x.put(0, 10, 1);
    x.addRule(0, COUNT, 1, 1, true, 0, 2);
    is("9 STIRRED is none", x.goOn(1), 0);
    stateIs("27 STIRRED", x, 0, STIRRED, 1);
    is("9 CALM from STIRRED is none", x.goOn(1), 0);
    stateIs("27 CALM", x, 0, CALM, 0);
    is("30 none", x.events(), 0);
    refuses(x, "31 none", INDEX, y -> y.event(0, 0));
  }

  /** "with FILL 0", whatever FILL the query has. */
  private static void fillOfQuery() {
    for (int fill = 0; fill < 4; fill++) {
      MeridianSeries x = storeAt(20);
      x.put(0, 5, 70);
      x.put(0, 20, 70);
      x.setQuery(0, 10000, 0, fill);
      x.addRule(0, SUM, 5, 1, false, 1000000, 1);
      is("29 a gap, FILL " + fill, x.seenBy(0), NOTHING);
      x.setQuery(0, 1, 3, fill);
      x.goOn(1);
      is("29 by its own WHAT and LENGTH", x.seenBy(0), 70);
    }
  }

  /** "all SERIES are rolled up, by numbers; then each RULE": a rule sees what has just been rolled up. */
  private static void rolledUpFirst() {
    MeridianSeries x = storeAt(30);
    x.addSeries(1, 1);
    x.setSpan(2);
    x.putRow(1, 28, 5, 1, 1, 2);
    x.setKeep(1, 0);
    x.addRule(1, COUNT, 5, 1, true, 0, 1);
    is("29 two points at 30", x.seenBy(0), 2);
    is("33 none: they are at 20 as NOW is 31", x.firesIn(100), -1);
    is("9 none", x.goOn(1), 0);
    is("29 nothing from 26 on", x.seenBy(0), 0);
    stateIs("27 it did not hold", x, 0, CALM, 0);
    MeridianSeries y = storeAt(30);
    y.setSpan(2);
    y.putRow(0, 28, 5, 1, 1, 2);
    y.addRule(0, COUNT, 5, 1, true, 0, 1);
    is("9 not rolled up, it holds", y.goOn(1), 1);
  }

  /** "then each RULE, by numbers": so are the events of one step. */
  private static void rulesByNumbers() {
    MeridianSeries x = storeAt(0);
    x.addSeries(2, 2);
    for (int i = 0; i < 8; i++) {
      x.addRule(i % 2, COUNT, 1, 1 + i % 3, false, 1, 1);
    }
    is("9 every 1: 0, 3 and 6", x.goOn(1), 3);
    is("9 every 2: 1, 4 and 7", x.goOn(1), 3);
    is("9 every 3: 2 and 5", x.goOn(1), 2);
    int[] rules = {5, 2, 7, 4, 1, 6, 3, 0};
    int[] nows = {3, 3, 2, 2, 2, 1, 1, 1};
    for (int back = 0; back < 8; back++) {
      eventIs("31 back " + back, x, back, nows[back], rules[back], FIRING);
    }
    refuses(x, "31 as many back as there were", INDEX, y -> y.event(8, 0));
    is("9 at 6 all are looked at, none is new", x.goOn(3), 0);
  }

  /** "how many EVENTS back, 0 for the latest one, up to 19": with 1, 19, 20, 21 and more of them. */
  private static void twentyEvents() {
    MeridianSeries x = storeAt(100);
    x.addRule(0, COUNT, 1, 1, true, 0, 1);
    for (int events = 1; events <= 45; events++) {
      boolean isFiring = events % 2 == 1;
      if (isFiring) {
        x.put(0, x.now(), 1);
      }
      is("9 one more event", x.goOn(1), 1);
      is("30 events", x.events(), events);
      eventIs("31 the latest of " + events, x, 0, 100 + events, 0, isFiring ? FIRING : CALM);
      int first = Math.min(events, 20) - 1;
      is("31 the farthest of " + events, x.event(first, 0), 100 + events - first);
      isText("31 one behind it", outcome(x, y -> y.event(first + 1, 0)), "throws " + INDEX);
    }
  }

  /** "what it would be told, if it was looked at now", also if NOW is no multiple of EVERY. */
  private static void seenNow() {
    MeridianSeries x = storeAt(61);
    x.addRule(0, LAST, 2, 60, true, 0, 1);
    is("29 NOTHING without ITEMS", x.seenBy(0), NOTHING);
    x.put(0, 60, 33);
    is("29 at 61, every 60", x.seenBy(0), 33);
    stateIs("29 nothing is changed by that", x, 0, CALM, 0);
    x.goOn(2);
    is("29 60 is below 63 - 2", x.seenBy(0), NOTHING);
  }

  /** Each WHAT is told of the rule's own series. */
  private static void eachIsTold() {
    MeridianSeries x = storeAt(10);
    x.addSeries(1, 1);
    int[] values = {7, 50, -9, 12};
    for (int i = 0; i < 4; i++) {
      x.put(1, 6 + i, values[i]);
      x.put(0, 6 + i, -70000);
    }
    int[] due = {4, 60, -9, 50, 7, 12, 15, 59};
    for (int what = 0; what < 8; what++) {
      x.addRule(1, what, 4, 1, true, due[what], 1);
      is("29 told " + what, x.seenBy(what), due[what]);
    }
    is("9 7 is out of all, two are above what they were", x.goOn(1), 2);
    is("31 FIRST is 50", x.event(1, 1), 4);
    is("31 MEAN is 53 / 3", x.event(0, 1), 6);
    is("29 FIRST of 50, -9, 12", x.seenBy(4), 50);
    is("29 MEAN of 50, -9, 12", x.seenBy(6), 17);
  }

  /** "by is not 1 to 100"; "behind how much": 1 and 100, and one more than that. */
  private static void firesInEdge() {
    MeridianSeries x = storeAt(100);
    x.addRule(0, COUNT, 1, 1, false, 1, 1);
    is("33 at the first step", x.firesIn(1), 1);
    is("33 at the first step of 100", x.firesIn(100), 1);
    MeridianSeries y = storeAt(10);
    y.put(0, 10, 1);
    y.addRule(0, COUNT, 100, 1, false, 1, 1);
    is("33 10 is out at 111, behind 101", y.firesIn(100), -1);
    y.goOn(1);
    is("33 behind 100", y.firesIn(100), 100);
    is("33 not up to 99", y.firesIn(99), -1);
    y.goOn(99);
    is("33 behind 1", y.firesIn(1), 1);
    is("33 without rules", storeAt(5).firesIn(100), -1);
    MeridianSeries z = storeAt(1);
    z.addRule(0, COUNT, 1, 60, false, 1, 2);
    is("33 at 60 and 120: behind 119", z.firesIn(100), -1);
    z.goOn(19);
    is("33 behind 100", z.firesIn(100), 100);
  }

  /** "any RULE": the first by time, whatever its number is. */
  private static void firesInTheFirst() {
    MeridianSeries x = storeAt(10);
    x.addRule(0, COUNT, 1, 30, false, 1, 1);
    is("33 at 30", x.firesIn(100), 20);
    x.addRule(0, COUNT, 1, 7, false, 1, 2);
    is("33 at 21", x.firesIn(100), 11);
    x.addRule(0, COUNT, 1, 16, false, 1, 1);
    is("33 at 16", x.firesIn(100), 6);
    x.addRule(0, COUNT, 1, 20, false, 1, 1);
    is("33 at 16 still", x.firesIn(100), 6);
    is("33 not up to 15", x.firesIn(5), -1);
  }

  /** To become FIRING it must have been CALM or STIRRED; CALM from FIRING is not meant. */
  private static void firesInAgain() {
    MeridianSeries x = storeAt(10);
    x.put(0, 10, 1);
    x.addRule(0, COUNT, 3, 1, true, 0, 2);
    x.goOn(2);
    stateIs("27 FIRING", x, 0, FIRING, 0);
    is("33 CALM at 15, no more", x.firesIn(100), -1);
    x.put(0, 12, 1);
    is("33 it holds on", x.firesIn(100), -1);
    x.goOn(3);
    stateIs("27 at 15", x, 0, FIRING, 0);
    x.goOn(2);
    stateIs("27 at 17", x, 0, CALM, 0);
    x.put(0, 17, 1);
    is("33 STIRRED at 18, FIRING at 19", x.firesIn(100), 2);
    x.goOn(1);
    is("33 from STIRRED", x.firesIn(100), 1);
  }

  /** What is told of the four points is what the rules of a trial are told. */
  private static void firesInByPoints() {
    checkEachTold("points", () -> storeOfFour());
  }

  /** So it is when they are in a fine bucket, or in a coarse one. */
  private static void firesInByBuckets() {
    checkEachTold("a fine bucket", () -> storeOfFourIn(false));
    checkEachTold("a coarse bucket", () -> storeOfFourIn(true));
  }

  private static MeridianSeries storeOfFour() {
    MeridianSeries x = storeAt(100);
    x.setSpan(4);
    x.setWidths(10, 3);
    int[] values = {7, 50, -9, 12};
    for (int i = 0; i < 4; i++) {
      x.put(0, 60 + i, values[i]);
    }
    return x;
  }

  private static MeridianSeries storeOfFourIn(boolean isCoarse) {
    MeridianSeries x = storeOfFour();
    x.setKeep(1, isCoarse ? 1 : 0);
    x.goOn(1);
    is("18 they are in a bucket", x.buckets(0, isCoarse), 1);
    return x;
  }

  private static void checkEachTold(String what, Making making) {
    int[] due = {4, 60, -9, 50, 7, 12, 15, 59};
    for (int told = 0; told < 8; told++) {
      String name = "33 " + what + ", told " + told;
      is(name + ", above one less", firesInOne(making, told, true, due[told] - 1), 1);
      is(name + ", above it", firesInOne(making, told, true, due[told]), -1);
      is(name + ", below one more", firesInOne(making, told, false, due[told] + 1), 1);
      is(name + ", below it", firesInOne(making, told, false, due[told]), -1);
    }
  }

  private static int firesInOne(Making making, int what, boolean isAbove, int limit) {
    MeridianSeries x = making.store();
    x.addRule(0, what, 60, 1, isAbove, limit, 1);
    return x.firesIn(1);
  }

  /** "(nothing is changed)": NOW, blocks, buckets, states, events. */
  private static void firesInChangesNothing() {
    Making[] makings = {() -> mixedStore(), () -> fullStore(), () -> new MeridianSeries()};
    for (Making making : makings) {
      MeridianSeries x = making.store();
      MeridianSeries y = making.store();
      for (int i = 0; i < 3; i++) {
        x.firesIn(100);
        x.firesIn(1);
        x.wouldRoll(1);
      }
      isText("33 and 34 change nothing", told(x), told(y));
    }
  }

  /** What firesIn tells comes so, also as blocks and buckets are rolled up on the way. */
  private static void firesInAsItComes() {
    for (int rule = 0; rule < 8; rule++) {
      MeridianSeries x = mixedStore();
      x.addRule(rule % 3, rule, 40, 1 + rule, rule % 2 == 0, rule * 3 - 10, 1 + rule % 5);
      x.addRule(2, COUNT, 70, 11, false, 2, 1 + rule % 3);
      int due = x.firesIn(100);
      int came = -1;
      for (int i = 1; i <= 100 && came < 0; i++) {
        int events = x.goOn(1);
        for (int back = 0; back < events; back++) {
          came = x.event(back, 2) == FIRING ? i : came;
        }
      }
      is("33 it comes so", due, came);
    }
  }

  /** "Lets NOW go on, 1 by 1": by 100 is as by 1, a hundred times. */
  private static void goOnByMany() {
    MeridianSeries x = mixedStore();
    MeridianSeries y = mixedStore();
    int events = 0;
    for (int i = 0; i < 100; i++) {
      events += y.goOn(1);
    }
    is("9 as many events", x.goOn(100), events);
    isText("9 all is the same", told(x), told(y));
    MeridianSeries z = storeAt(1);
    z.addRule(0, COUNT, 1, 1, true, 0, 1);
    z.put(0, 1, 1);
    is("9 FIRING at 2, CALM at 3", z.goOn(100), 2);
    is("9 only those by that", z.goOn(100), 0);
    is("30 all of them", z.events(), 2);
  }
}
