/**
 * Each refused call of each promise: the last argument that is taken and the first that is not, at
 * either end; which exception; that nothing has changed behind it; and, if several apply, that the
 * one that is named first is thrown.
 */
public final class RefusalTest extends Check {
  private static final Making EMPTY = () -> new MeridianSeries();
  private static final Making MIXED = () -> mixedStore();
  private static final Making FULL = () -> fullStore();
  /** With one series, and NOW 100. */
  private static final Making ONE = () -> storeAt(100);

  public static void main(String[] args) {
    storesAreWhatTheyAreFor();
    addSeries();
    setSpan();
    setWidths();
    setWidthsWithBuckets();
    setKeep();
    setQuery();
    put();
    putRow();
    putRowEnds();
    goOnAndFiresIn();
    ofSeriesAlone();
    blocks();
    points();
    words();
    ofBucket();
    ask();
    over();
    gapsAndLastAt();
    addRule();
    addRuleInOrder();
    ofRules();
    event();
    bitsWith();
    wouldRoll();
    allOnEmpty();
    end("refusals");
  }

  /** If one of these no longer held, what is checked on the stores would say less. */
  private static void storesAreWhatTheyAreFor() {
    MeridianSeries x = mixedStore();
    is("mixed: now", x.now(), 480);
    is("mixed: late", x.late(), 1);
    is("mixed: more events than are kept", x.events() > 20 ? 1 : 0, 1);
    for (int series = 0; series < 3; series++) {
      is("mixed: sealed blocks", x.blocks(series) > 1 ? 1 : 0, 1);
      is("mixed: fine buckets", x.buckets(series, false) > 2 ? 1 : 0, 1);
      is("mixed: coarse buckets", x.buckets(series, true) > 2 ? 1 : 0, 1);
    }
    is("mixed: the open block of series 0", x.size(0, x.blocks(0) - 1), 2);
    MeridianSeries y = fullStore();
    for (int series = 0; series < 6; series++) {
      is("full: blocks", y.blocks(series), 9);
      is("full: open", y.size(series, 8), 15);
      is("full: fine", y.buckets(series, false), 24);
      is("full: coarse", y.buckets(series, true), 24);
    }
  }

  private static void addSeries() {
    range("2 one", EMPTY, 0, 9, ARGUMENT, (x, n) -> x.addSeries(n, 0));
    range("2 other", MIXED, 0, 9, ARGUMENT, (x, n) -> x.addSeries(9, n));
    refuses("2 there are 6", STATE, FULL, x -> x.addSeries(0, 0));
    refuses("2 one 10, and there are 6", ARGUMENT, FULL, x -> x.addSeries(10, 0));
    refuses("2 other -1, and there are 6", ARGUMENT, FULL, x -> x.addSeries(0, -1));
  }

  private static void setSpan() {
    range("3 span", EMPTY, 2, 16, ARGUMENT, (x, n) -> x.setSpan(n));
    range("3 span", MIXED, 2, 16, ARGUMENT, (x, n) -> x.setSpan(n));
  }

  private static void setWidths() {
    range("4 width", EMPTY, 2, 100, ARGUMENT, (x, n) -> x.setWidths(n, 6));
    range("4 fold", ONE, 2, 20, ARGUMENT, (x, n) -> x.setWidths(10, n));
    refuses("4 both", ARGUMENT, ONE, x -> x.setWidths(101, 21));
  }

  /** Its sixth series alone has a fine bucket, or a coarse one. */
  private static MeridianSeries storeWithOneBucket(boolean isCoarse) {
    MeridianSeries x = new MeridianSeries();
    for (int i = 0; i < 6; i++) {
      x.addSeries(1, 2);
    }
    x.setSpan(2);
    x.goOn(100);
    x.putRow(5, 30, 1, 1, 1, 2);
    x.setKeep(1, isCoarse ? 1 : 0);
    x.goOn(1);
    return x;
  }

  private static void setWidthsWithBuckets() {
    for (boolean isCoarse : new boolean[] {false, true}) {
      is("4 one bucket alone", storeWithOneBucket(isCoarse).buckets(5, isCoarse), 1);
      is("4 none of the other kind", storeWithOneBucket(isCoarse).buckets(5, !isCoarse), 0);
      Making making = () -> storeWithOneBucket(isCoarse);
      refuses("4 with a bucket", STATE, making, x -> x.setWidths(10, 6));
      refuses("4 width, and a bucket", ARGUMENT, making, x -> x.setWidths(1, 6));
      refuses("4 fold, and a bucket", ARGUMENT, making, x -> x.setWidths(10, 21));
    }
    refuses("4 with many buckets", STATE, MIXED, x -> x.setWidths(5, 3));
  }

  private static void setKeep() {
    range("5 keep", EMPTY, 0, 10000, ARGUMENT, (x, n) -> x.setKeep(n, 0));
    range("5 keep", MIXED, 0, 10000, ARGUMENT, (x, n) -> x.setKeep(n, 7));
    range("5 longKeep", EMPTY, 0, 10000, ARGUMENT, (x, n) -> x.setKeep(0, n));
    range("5 longKeep", MIXED, 0, 10000, ARGUMENT, (x, n) -> x.setKeep(7, n));
  }

  private static void setQuery() {
    range("6 from", MIXED, 0, 99999, ARGUMENT, (x, n) -> x.setQuery(n, 7, 0, 1));
    range("6 step", MIXED, 1, 10000, ARGUMENT, (x, n) -> x.setQuery(3, n, 0, 1));
    range("6 what", MIXED, 0, 7, ARGUMENT, (x, n) -> x.setQuery(3, 7, n, 1));
    range("6 fill", MIXED, 0, 3, ARGUMENT, (x, n) -> x.setQuery(3, 7, 0, n));
  }

  private static void put() {
    range("7 series", MIXED, 0, 2, INDEX, (x, n) -> x.put(n, 480, 1));
    range("7 time", ONE, 0, 100, ARGUMENT, (x, n) -> x.put(0, n, 1));
    range("7 time", MIXED, 0, 480, ARGUMENT, (x, n) -> x.put(2, n, 1));
    range("7 value", MIXED, -100000, 100000, ARGUMENT, (x, n) -> x.put(1, 480, n));
    refuses("7 at NOW 0, time 1", ARGUMENT, () -> storeAt(0), x -> x.put(0, 1, 1));
    refuses("7 series and time", INDEX, MIXED, x -> x.put(3, 481, 1));
    refuses("7 series and value", INDEX, MIXED, x -> x.put(-1, 0, 100001));
    refuses("7 what would be late, with a wrong value", ARGUMENT, MIXED, x -> x.put(0, 0, 100001));
  }

  private static void putRow() {
    Making far = () -> storeAt(1100);
    range("8 series", FULL, 0, 5, INDEX, (x, n) -> x.putRow(n, 490, 1, 1, 1, 3));
    range("8 count", far, 1, 30, ARGUMENT, (x, n) -> x.putRow(0, 0, 0, 1, 0, n));
    range("8 every", far, 1, 1000, ARGUMENT, (x, n) -> x.putRow(0, 0, 0, n, 0, 2));
    range("8 first time", far, 0, 1100, ARGUMENT, (x, n) -> x.putRow(0, n, 0, 5, 0, 1));
    range("8 last time", far, 0, 1013, ARGUMENT, (x, n) -> x.putRow(0, n, 0, 3, 0, 30));
    range("8 value", far, -100000, 100000, ARGUMENT, (x, n) -> x.putRow(0, 0, n, 1, 5, 1));
    refuses("8 series and all others", INDEX, FULL, x -> x.putRow(6, -1, 100001, 0, 0, 0));
    refuses("8 series and count", INDEX, FULL, x -> x.putRow(-1, 0, 0, 1, 0, 31));
    refuses("8 every is looked at with one point", ARGUMENT, far, x -> x.putRow(0, 0, 0, 0, 0, 1));
    refuses("8 every is looked at with one point", ARGUMENT, far, x -> x.putRow(0, 0, 0, 1001, 0, 1));
    refuses("8 a count far off", ARGUMENT, far, x -> x.putRow(0, 0, 0, 1000, 1, 1 << 30));
    refuses("8 none of a row that ends above NOW is put, nor late", ARGUMENT, MIXED, x -> x.putRow(0, 452, 1, 1, 1, 30));
  }

  /** The last value of a row, up and down; also beyond an int. */
  private static void putRowEnds() {
    range("8 last value, up", ONE, -100000, 99971, ARGUMENT, (x, n) -> x.putRow(0, 0, n, 1, 1, 30));
    range("8 last value, down", ONE, -99971, 100000, ARGUMENT, (x, n) -> x.putRow(0, 0, n, 1, -1, 30));
    range("8 more", ONE, -200000, 0, ARGUMENT, (x, n) -> x.putRow(0, 0, 100000, 1, n, 2));
    range("8 more", ONE, 0, 200000, ARGUMENT, (x, n) -> x.putRow(0, 0, -100000, 1, n, 2));
    refuses("8 4 times 2^30 wraps around to 0", ARGUMENT, ONE, x -> x.putRow(0, 0, 0, 1, 1 << 30, 5));
    refuses("8 16 times 2^28 wraps around to 0", ARGUMENT, ONE, x -> x.putRow(0, 0, 0, 1, 1 << 28, 17));
    takes("8 any more with one point", ONE, x -> x.putRow(0, 0, 0, 1, Integer.MIN_VALUE, 1));
    takes("8 any more with one point", ONE, x -> x.putRow(0, 0, 0, 1, Integer.MAX_VALUE, 1));
  }

  private static void goOnAndFiresIn() {
    range("9 by", EMPTY, 1, 100, ARGUMENT, (x, n) -> x.goOn(n));
    range("9 by", MIXED, 1, 100, ARGUMENT, (x, n) -> x.goOn(n));
    range("33 by", EMPTY, 1, 100, ARGUMENT, (x, n) -> x.firesIn(n));
    range("33 by", MIXED, 1, 100, ARGUMENT, (x, n) -> x.firesIn(n));
  }

  private static void ofSeriesAlone() {
    range("13 series", MIXED, 0, 2, INDEX, (x, n) -> x.blocks(n));
    range("18 series", MIXED, 0, 2, INDEX, (x, n) -> x.buckets(n, false));
    range("18 series", MIXED, 0, 2, INDEX, (x, n) -> x.buckets(n, true));
    range("20 series", MIXED, 0, 2, INDEX, (x, n) -> x.items(n));
    range("13 series of 6", FULL, 0, 5, INDEX, (x, n) -> x.blocks(n));
  }

  private static void blocks() {
    range("14 series", MIXED, 0, 2, INDEX, (x, n) -> x.size(n, 0));
    range("14 block", FULL, 0, 8, INDEX, (x, n) -> x.size(3, n));
    range("14 block of one", ONE, 0, 0, INDEX, (x, n) -> x.size(0, n));
    range("16 series", MIXED, 0, 2, INDEX, (x, n) -> x.bits(n, 0));
    range("16 block", FULL, 0, 8, INDEX, (x, n) -> x.bits(3, n));
    range("16 block of one", ONE, 0, 0, INDEX, (x, n) -> x.bits(0, n));
  }

  private static void points() {
    range("15 series", MIXED, 0, 2, INDEX, (x, n) -> x.point(n, 0, 0, true));
    range("15 block", FULL, 0, 8, INDEX, (x, n) -> x.point(5, n, 0, false));
    range("15 point of a sealed one", FULL, 0, 15, INDEX, (x, n) -> x.point(5, 7, n, true));
    range("15 point of the open one", FULL, 0, 14, INDEX, (x, n) -> x.point(5, 8, n, false));
    for (int point = -1; point < 2; point++) {
      int bad = point;
      refuses("15 there is no point in an empty one", INDEX, ONE, x -> x.point(0, 0, bad, true));
    }
  }

  private static void words() {
    Making two = () -> sealedStore(1000);
    range("17 series", two, 0, 0, INDEX, (x, n) -> x.word(n, 0, 0));
    range("17 block, the open one not", two, 0, 0, INDEX, (x, n) -> x.word(0, n, 0));
    // 6 + 20 + 21 bits, 3 + 9 of the time, 3 + 19 of the value: 81.
    is("16 bits", sealedStore(1000).bits(0, 0), 81);
    range("17 word", two, 0, 5, INDEX, (x, n) -> x.word(0, 0, n));
    is("16 bits, a multiple of 16", storeOf64Bits().bits(0, 0), 64);
    range("17 word of 64 bits", () -> storeOf64Bits(), 0, 3, INDEX, (x, n) -> x.word(0, 0, n));
    refuses("17 of an open one with points", INDEX, FULL, x -> x.word(0, 8, 0));
    refuses("17 of an open one without", INDEX, ONE, x -> x.word(0, 0, 0));
  }

  private static MeridianSeries sealedStore(int more) {
    MeridianSeries x = storeAt(100);
    x.setSpan(2);
    x.putRow(0, 0, 0, 100, more, 2);
    return x;
  }

  /** 47 bits, then 2 + 6 and 2 + 5, then 1 and 1. */
  private static MeridianSeries storeOf64Bits() {
    MeridianSeries x = storeAt(100);
    x.setSpan(3);
    x.put(0, 10, 5);
    x.put(0, 20, 6);
    x.put(0, 30, 6);
    return x;
  }

  private static void ofBucket() {
    for (boolean isCoarse : new boolean[] {false, true}) {
      range("19 series", FULL, 0, 5, INDEX, (x, n) -> x.ofBucket(n, isCoarse, 0, 0));
      range("19 bucket", FULL, 0, 23, INDEX, (x, n) -> x.ofBucket(5, isCoarse, n, 6));
      range("19 what", FULL, 0, 6, ARGUMENT, (x, n) -> x.ofBucket(0, isCoarse, 23, n));
      refuses("19 there is none", INDEX, ONE, x -> x.ofBucket(0, isCoarse, 0, 0));
      refuses("19 series and what", INDEX, FULL, x -> x.ofBucket(6, isCoarse, 0, 7));
      refuses("19 bucket and what", INDEX, FULL, x -> x.ofBucket(0, isCoarse, 24, -1));
    }
  }

  private static void ask() {
    range("22 series", MIXED, 0, 2, INDEX, (x, n) -> x.ask(n, 0));
    range("22 window", MIXED, 0, 1000, ARGUMENT, (x, n) -> x.ask(0, n));
    refuses("22 series and window", INDEX, MIXED, x -> x.ask(3, 1001));
  }

  private static void over() {
    range("23 label", MIXED, 0, 9, ARGUMENT, (x, n) -> x.over(false, n, 0, 0));
    range("23 label", EMPTY, 0, 9, ARGUMENT, (x, n) -> x.over(true, n, 3, 0));
    range("23 how", MIXED, 0, 3, ARGUMENT, (x, n) -> x.over(true, 2, n, 0));
    range("23 window", MIXED, 0, 1000, ARGUMENT, (x, n) -> x.over(false, 1, 2, n));
  }

  private static void gapsAndLastAt() {
    range("24 series", MIXED, 0, 2, INDEX, (x, n) -> x.gaps(n, 1));
    range("24 windows", MIXED, 1, 100, ARGUMENT, (x, n) -> x.gaps(0, n));
    refuses("24 series and windows", INDEX, MIXED, x -> x.gaps(3, 0));
    range("25 series", MIXED, 0, 2, INDEX, (x, n) -> x.lastAt(n, 0));
    range("25 time", MIXED, 0, 99999, ARGUMENT, (x, n) -> x.lastAt(0, n));
    refuses("25 series and time", INDEX, MIXED, x -> x.lastAt(-1, 100000));
  }

  private static void addRule() {
    range("26 series", MIXED, 0, 2, INDEX, (x, n) -> x.addRule(n, 0, 1, 1, true, 0, 1));
    range("26 what", MIXED, 0, 7, ARGUMENT, (x, n) -> x.addRule(0, n, 1, 1, true, 0, 1));
    range("26 length", MIXED, 1, 500, ARGUMENT, (x, n) -> x.addRule(0, 0, n, 1, true, 0, 1));
    range("26 every", MIXED, 1, 60, ARGUMENT, (x, n) -> x.addRule(0, 0, 1, n, true, 0, 1));
    range("26 limit", MIXED, -1000000, 1000000, ARGUMENT, (x, n) -> x.addRule(0, 0, 1, 1, false, n, 1));
    range("26 times", MIXED, 1, 5, ARGUMENT, (x, n) -> x.addRule(0, 0, 1, 1, true, 0, n));
  }

  private static void addRuleInOrder() {
    refuses("26 there are 8", STATE, FULL, x -> x.addRule(0, 0, 1, 1, true, 0, 1));
    refuses("26 series, and there are 8", INDEX, FULL, x -> x.addRule(6, 0, 1, 1, true, 0, 1));
    refuses("26 what, and there are 8", ARGUMENT, FULL, x -> x.addRule(0, 8, 1, 1, true, 0, 1));
    refuses("26 length, and there are 8", ARGUMENT, FULL, x -> x.addRule(0, 0, 0, 1, true, 0, 1));
    refuses("26 every, and there are 8", ARGUMENT, FULL, x -> x.addRule(0, 0, 1, 61, true, 0, 1));
    refuses("26 limit, and there are 8", ARGUMENT, FULL, x -> x.addRule(0, 0, 1, 1, true, 1000001, 1));
    refuses("26 times, and there are 8", ARGUMENT, FULL, x -> x.addRule(0, 0, 1, 1, true, 0, 6));
    refuses("26 series and all others", INDEX, FULL, x -> x.addRule(-1, 8, 0, 0, true, 1000001, 0));
    refuses("26 series and what", INDEX, MIXED, x -> x.addRule(3, -1, 1, 1, true, 0, 1));
  }

  private static void ofRules() {
    range("27 rule", MIXED, 0, 2, INDEX, (x, n) -> x.stateOf(n));
    range("28 rule", MIXED, 0, 2, INDEX, (x, n) -> x.inRow(n));
    range("29 rule", MIXED, 0, 2, INDEX, (x, n) -> x.seenBy(n));
    range("27 rule of 8", FULL, 0, 7, INDEX, (x, n) -> x.stateOf(n));
    range("28 rule of 8", FULL, 0, 7, INDEX, (x, n) -> x.inRow(n));
    range("29 rule of 8", FULL, 0, 7, INDEX, (x, n) -> x.seenBy(n));
  }

  /** Two rules have fired: there are two events. */
  private static MeridianSeries storeWithTwoEvents() {
    MeridianSeries x = storeAt(0);
    x.addRule(0, 0, 1, 1, false, 5, 1);
    x.addRule(0, 0, 1, 1, false, 5, 1);
    x.goOn(1);
    return x;
  }

  private static void event() {
    range("31 back, of more than 20", MIXED, 0, 19, INDEX, (x, n) -> x.event(n, 0));
    range("31 back, of two", () -> storeWithTwoEvents(), 0, 1, INDEX, (x, n) -> x.event(n, 2));
    range("31 what", MIXED, 0, 2, ARGUMENT, (x, n) -> x.event(19, n));
    refuses("31 there was none", INDEX, ONE, x -> x.event(0, 0));
    refuses("31 there was none, and what", INDEX, ONE, x -> x.event(0, 3));
    refuses("31 back and what", INDEX, MIXED, x -> x.event(20, 3));
  }

  private static void bitsWith() {
    range("32 series", MIXED, 0, 2, INDEX, (x, n) -> x.bitsWith(n, 480, 1));
    range("32 time", MIXED, 0, 480, ARGUMENT, (x, n) -> x.bitsWith(0, n, 1));
    range("32 value", MIXED, -100000, 100000, ARGUMENT, (x, n) -> x.bitsWith(0, 480, n));
    refuses("32 series and time", INDEX, MIXED, x -> x.bitsWith(3, 481, 1));
    refuses("32 series and value", INDEX, MIXED, x -> x.bitsWith(-1, 480, 100001));
    refuses("32 what would be late, with a wrong value", ARGUMENT, MIXED, x -> x.bitsWith(0, 0, -100001));
  }

  private static void wouldRoll() {
    range("34 keep", EMPTY, 0, 10000, ARGUMENT, (x, n) -> x.wouldRoll(n));
    range("34 keep", MIXED, 0, 10000, ARGUMENT, (x, n) -> x.wouldRoll(n));
  }

  /** Without series or rules, each call that names one is refused. */
  private static void allOnEmpty() {
    refuses("7 no series", INDEX, EMPTY, x -> x.put(0, 0, 0));
    refuses("8 no series", INDEX, EMPTY, x -> x.putRow(0, 0, 0, 1, 0, 1));
    refuses("13 no series", INDEX, EMPTY, x -> x.blocks(0));
    refuses("14 no series", INDEX, EMPTY, x -> x.size(0, 0));
    refuses("15 no series", INDEX, EMPTY, x -> x.point(0, 0, 0, true));
    refuses("16 no series", INDEX, EMPTY, x -> x.bits(0, 0));
    refuses("17 no series", INDEX, EMPTY, x -> x.word(0, 0, 0));
    refuses("18 no series", INDEX, EMPTY, x -> x.buckets(0, true));
    refuses("19 no series", INDEX, EMPTY, x -> x.ofBucket(0, true, 0, 0));
    refuses("20 no series", INDEX, EMPTY, x -> x.items(0));
    refuses("22 no series", INDEX, EMPTY, x -> x.ask(0, 0));
    refuses("24 no series", INDEX, EMPTY, x -> x.gaps(0, 1));
    refuses("25 no series", INDEX, EMPTY, x -> x.lastAt(0, 0));
    refuses("26 no series", INDEX, EMPTY, x -> x.addRule(0, 0, 1, 1, true, 0, 1));
    refuses("27 no rule", INDEX, EMPTY, x -> x.stateOf(0));
    refuses("28 no rule", INDEX, EMPTY, x -> x.inRow(0));
    refuses("29 no rule", INDEX, EMPTY, x -> x.seenBy(0));
    refuses("31 no event", INDEX, EMPTY, x -> x.event(0, 0));
    refuses("32 no series", INDEX, EMPTY, x -> x.bitsWith(0, 0, 0));
    is("21 ratio", new MeridianSeries().ratio(), 0.0);
    is("23 over", new MeridianSeries().over(false, 0, 0, 0), NOTHING);
    is("33 firesIn", new MeridianSeries().firesIn(100), -1);
    is("34 wouldRoll", new MeridianSeries().wouldRoll(1), 0);
  }
}
