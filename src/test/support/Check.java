import java.util.ArrayList;
import java.util.List;

/** What the tests share: stores made ready, answers compared, refused calls looked at. */
class Check {
  static final int NOTHING = -1000000;
  static final String INDEX = "IndexOutOfBoundsException";
  static final String ARGUMENT = "IllegalArgumentException";
  static final String STATE = "IllegalStateException";

  private static int wrong = 0;
  private static int checked = 0;

  /** Makes a store; each time one like the others. */
  interface Making {
    MeridianSeries store();
  }

  interface Use {
    Object on(MeridianSeries x);
  }

  interface UseOfNumber {
    Object on(MeridianSeries x, int number);
  }

  static void end(String title) {
    System.out.println(title + ": " + checked + " answers looked at, " + wrong + " wrong");
    if (wrong != 0) {
      System.exit(1);
    }
  }

  static void is(String what, long got, long due) {
    isText(what, String.valueOf(got), String.valueOf(due));
  }

  static void is(String what, double got, double due) {
    isText(what, String.valueOf(got), String.valueOf(due));
  }

  static void isText(String what, String got, String due) {
    checked++;
    if (!got.equals(due)) {
      wrong++;
      System.out.println(what + ": answered " + got + ", due is " + due);
    }
  }

  /** The answer, or the exception by its own name, so that none below it passes for it. */
  static String outcome(MeridianSeries x, Use use) {
    try {
      return String.valueOf(use.on(x));
    } catch (RuntimeException e) {
      return (isThrownByProgram(e) ? "throws " : "throws by itself ") + e.getClass().getSimpleName();
    }
  }

  /** A list of the library throws by the same names; the program must throw by a statement of its own. */
  private static boolean isThrownByProgram(RuntimeException e) {
    StackTraceElement[] trace = e.getStackTrace();
    return trace.length > 0 && trace[0].getClassName().startsWith("MeridianSeries");
  }

  /** The call must be answered, whatever the answer is. */
  static void takes(String what, Making making, Use use) {
    String got = outcome(making.store(), use);
    isText(what + " is taken", got.startsWith("throws") ? got : "an answer", "an answer");
  }

  /** The call must throw that; the digest alone tells whether something has changed. */
  static void refuses(MeridianSeries x, String what, String exception, Use use) {
    long before = x.digest();
    isText(what, outcome(x, use), "throws " + exception);
    is(what + ": digest behind it", x.digest(), before);
  }

  /**
   * The call must throw that, and change nothing: of two stores made alike one gets the call, and
   * both must tell the same then, also as they go on.
   */
  static void refuses(String what, String exception, Making making, Use use) {
    MeridianSeries x = making.store();
    isText(what, outcome(x, use), "throws " + exception);
    isText(what + ": what is told and goes on behind it", told(x), told(making.store()));
  }

  /** From least to greatest is taken; what is outside is refused, and changes nothing. */
  static void range(
      String what, Making making, int least, int greatest, String exception, UseOfNumber use) {
    takes(what + " " + least, making, x -> use.on(x, least));
    takes(what + " " + greatest, making, x -> use.on(x, greatest));
    for (int bad : new int[] {least - 1, greatest + 1, Integer.MIN_VALUE, Integer.MAX_VALUE}) {
      refuses(what + " " + bad, exception, making, x -> use.on(x, bad));
    }
  }

  /** A store with one series of the labels 1 and 2, and NOW that far on. */
  static MeridianSeries storeAt(int now) {
    MeridianSeries x = new MeridianSeries();
    x.addSeries(1, 2);
    goOnTo(x, now);
    return x;
  }

  static void goOnTo(MeridianSeries x, int now) {
    while (x.now() < now) {
      x.goOn(Math.min(100, now - x.now()));
    }
  }

  /** Checks the numbers of a bucket: START, COUNT, SUM, MIN, MAX, FIRST, LAST. */
  static void bucketIs(String what, MeridianSeries x, boolean isCoarse, int bucket, int... due) {
    for (int i = 0; i < due.length; i++) {
      is(what + ", number " + i, x.ofBucket(0, isCoarse, bucket, i), due[i]);
    }
  }

  /** A store that has of everything: blocks, buckets of both kinds, rules, late points, events. */
  static MeridianSeries mixedStore() {
    MeridianSeries x = new MeridianSeries();
    x.addSeries(1, 2);
    x.addSeries(1, 3);
    x.addSeries(4, 2);
    x.setSpan(3);
    x.setWidths(5, 3);
    x.setKeep(40, 90);
    x.setQuery(100, 20, 6, 3);
    x.addRule(0, 0, 10, 1, true, 0, 1);
    x.addRule(1, 1, 50, 7, false, 100, 3);
    x.addRule(2, 5, 60, 10, true, 8, 5);
    for (int i = 0; i < 16; i++) {
      x.goOn(30);
      for (int series = 0; series < 3; series++) {
        x.putRow(series, x.now() - 20 + series, i * (series - 1), 3, 2, 5 - series);
      }
    }
    x.put(1, 0, 0);
    return x;
  }

  /** A store with all that can be: 6 series, 8 rules, full blocks and buckets in each series. */
  static MeridianSeries fullStore() {
    MeridianSeries x = new MeridianSeries();
    x.setSpan(16);
    x.setWidths(2, 2);
    for (int series = 0; series < 6; series++) {
      x.addSeries(series, 9 - series);
    }
    for (int rule = 0; rule < 8; rule++) {
      x.addRule(rule % 6, rule, 500, 60, true, -1000000, 5);
    }
    goOnTo(x, 500);
    for (int series = 0; series < 6; series++) {
      for (int row = 0; row < 7; row++) {
        x.putRow(series, row * 60, row * 30 + series, 2, 1, 30);
      }
      x.putRow(series, 420, 210 + series, 2, 1, 13);
    }
    return x;
  }

  /** All that a store tells, now and as it goes on; it is changed by that. */
  static String told(MeridianSeries x) {
    List<String> all = new ArrayList<>();
    toldNow(x, all);
    if (x.series() == 0) {
      x.addSeries(1, 2);
    }
    for (int round = 0; round < 4; round++) {
      all.add(outcome(x, y -> y.goOn(100)));
      for (int i = 0; i < x.series(); i++) {
        int series = i;
        all.add(outcome(x, y -> y.putRow(series, y.now() - 90, 3, 3, 1, 30)));
      }
      all.add(outcome(x, y -> y.digest()));
    }
    toldBySetting(x, all);
    return all.toString();
  }

  private static void toldNow(MeridianSeries x, List<String> all) {
    all.add(outcome(x, y -> y.digest()));
    all.add(outcome(x, y -> y.ratio()));
    for (int i = 0; i < 10; i++) {
      int label = i;
      all.add(outcome(x, y -> y.over(false, label, 0, 2)));
      all.add(outcome(x, y -> y.over(true, label, 0, 2)));
    }
    for (int i = 5; i < 20 && i < x.events(); i++) {
      int back = i;
      all.add(outcome(x, y -> y.event(back, 0)));
      all.add(outcome(x, y -> y.event(back, 1)));
      all.add(outcome(x, y -> y.event(back, 2)));
    }
  }

  /** What was set is told by the setters, and by where all goes as it is rolled up. */
  private static void toldBySetting(MeridianSeries x, List<String> all) {
    all.add(outcome(x, y -> y.setSpan(2)));
    all.add(outcome(x, y -> y.setQuery(0, 7, 0, 1)));
    all.add(outcome(x, y -> y.setKeep(1, 1)));
    all.add(outcome(x, y -> y.goOn(1)));
    all.add(outcome(x, y -> y.digest()));
    all.add(outcome(x, y -> y.setWidths(3, 3)));
    all.add(outcome(x, y -> y.addSeries(1, 1)));
    all.add(outcome(x, y -> y.addRule(0, 0, 1, 1, true, 0, 1)));
  }
}
