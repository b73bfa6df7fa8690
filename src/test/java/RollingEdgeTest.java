/** The edges that "3 ROLLING UP" names, sentence by sentence, with promises 4, 5, 9, 18, 19 and 34. */
public final class RollingEdgeTest extends Check {
  public static void main(String[] args) {
    startsOfFine();
    startsOfCoarse();
    widthsAtFirst();
    widthsWithoutBuckets();
    keepEdge();
    keepForEver();
    settingRollsNothing();
    lastTimeOfTheFirst();
    manyAtOnce();
    longKeepEdge();
    longKeepForEver();
    longKeepWithoutKeep();
    allInOneStep();
    openBlocksStay();
    numbersOfBuckets();
    intoTheLastBucket();
    aStartThatComesAgain();
    twentyFiveFine();
    twentyFiveFineByPut();
    twentyFiveCoarse();
    seriesByThemselves();
    wouldRollEdge();
    wouldRollOverSeries();
    wouldRollAsItComes();
    end("edges of rolling up");
  }

  /** A store with a block of these two points, NOW that far on. */
  private static MeridianSeries storeWithBlock(int now, int time, int lastTime) {
    MeridianSeries x = storeAt(now);
    addBlock(x, 0, time, lastTime);
    return x;
  }

  private static void addBlock(MeridianSeries x, int series, int time, int lastTime) {
    x.setSpan(2);
    x.put(series, time, 1);
    x.put(series, lastTime, 2);
  }

  /** The START that a fine bucket has, or a coarse one, for a point of this time. */
  private static int startFor(int time, int width, int fold, boolean isCoarse) {
    MeridianSeries x = storeAt(6100);
    x.setWidths(width, fold);
    addBlock(x, 0, time, time + 1);
    x.setKeep(1, isCoarse ? 1 : 0);
    x.goOn(1);
    return x.ofBucket(0, isCoarse, 0, 0);
  }

  /** "the START that is not above their time, less than a WIDTH below it" */
  private static void startsOfFine() {
    for (int width : new int[] {2, 3, 10, 99, 100}) {
      String what = "19 START with width " + width;
      is(what + ", at 0", startFor(0, width, 2, false), 0);
      is(what + ", the last time of 0", startFor(width - 1, width, 2, false), 0);
      is(what + ", the next one", startFor(width, width, 2, false), width);
      is(what + ", the last time of the next one", startFor(2 * width - 1, width, 2, false), width);
      is(what + ", far on", startFor(50 * width - 1, width, 2, false), 49 * width);
    }
  }

  /** "the START that is not above its own, less than a WIDTH of those below it" */
  private static void startsOfCoarse() {
    int[][] widths = {{2, 2}, {2, 20}, {10, 6}, {100, 2}, {100, 20}, {7, 3}};
    for (int[] one : widths) {
      int wide = one[0] * one[1];
      String what = "19 coarse START with width " + one[0] + ", fold " + one[1];
      is(what + ", at 0", startFor(0, one[0], one[1], true), 0);
      is(what + ", the last time of 0", startFor(wide - 1, one[0], one[1], true), 0);
      is(what + ", the next one", startFor(wide, one[0], one[1], true), wide);
      is(what + ", the last time of the next one", startFor(2 * wide - 1, one[0], one[1], true), wide);
    }
  }

  /** "(10, at first)", "(2 to 20; 6, at first)" */
  private static void widthsAtFirst() {
    MeridianSeries x = storeAt(200);
    x.setSpan(2);
    x.putRow(0, 9, 1, 1, 1, 2);
    x.putRow(0, 59, 1, 1, 1, 2);
    x.setKeep(1, 0);
    x.goOn(1);
    int[] starts = {0, 10, 50, 60};
    for (int i = 0; i < 4; i++) {
      is("19 the width is 10 at first", x.ofBucket(0, false, i, 0), starts[i]);
    }
    x.setKeep(1, 1);
    x.goOn(1);
    is("18 the fold is 6 at first", x.buckets(0, true), 2);
    is("19 the first start", x.ofBucket(0, true, 0, 0), 0);
    is("19 how many up to 59", x.ofBucket(0, true, 0, 1), 3);
    is("19 the next start", x.ofBucket(0, true, 1, 0), 60);
    is("4 the width before", new MeridianSeries().setWidths(2, 2), 10);
  }

  /** "if there is any BUCKET": without, they are set as often as one likes, and hold from then on. */
  private static void widthsWithoutBuckets() {
    MeridianSeries x = storeWithBlock(100, 31, 32);
    is("4 with a sealed block", x.setWidths(2, 20), 10);
    is("4 the width before", x.setWidths(100, 2), 2);
    is("4 the width before", x.setWidths(4, 5), 100);
    x.setKeep(1, 0);
    x.goOn(1);
    is("19 by the last width", x.ofBucket(0, false, 0, 0), 28);
    is("19 by the last width", x.ofBucket(0, false, 1, 0), 32);
    x.setKeep(1, 1);
    x.goOn(1);
    is("19 by the last fold", x.ofBucket(0, true, 0, 0), 20);
  }

  /** "the last time of its first one is below NOW - KEEP": not at it, but one above. */
  private static void keepEdge() {
    for (int keep : new int[] {1, 2, 100, 9999, 10000}) {
      MeridianSeries x = storeWithBlock(50, 20, 50);
      is("5 KEEP is 0 at first", x.setKeep(keep, 0), 0);
      goOnTo(x, 50 + keep);
      is("13 the last time is NOW - " + keep, x.blocks(0), 2);
      is("18 nothing is rolled up", x.buckets(0, false), 0);
      is("34 it would be, as NOW goes on", x.wouldRoll(keep), 1);
      x.goOn(1);
      is("13 it is one below NOW - " + keep, x.blocks(0), 1);
      is("18 it is rolled up", x.buckets(0, false), 2);
      is("5 KEEP before", x.setKeep(0, 0), keep);
    }
  }

  /** "KEEP and LONG KEEP are 0 (for ever, at first)" */
  private static void keepForEver() {
    MeridianSeries x = storeWithBlock(50, 0, 1);
    goOnTo(x, 11000);
    is("13 for ever, at first", x.blocks(0), 2);
    x.setKeep(10000, 0);
    x.setKeep(0, 1);
    x.goOn(100);
    is("13 for ever again", x.blocks(0), 2);
    x.setKeep(10000, 0);
    x.goOn(1);
    is("13 no more", x.blocks(0), 1);
  }

  private static void settingRollsNothing() {
    MeridianSeries x = storeWithBlock(100, 0, 1);
    x.setKeep(1, 1);
    is("13 as KEEP is set nothing is rolled up", x.blocks(0), 2);
    x.put(0, 100, 1);
    is("13 nor as a point is put", x.blocks(0), 2);
    x.goOn(1);
    is("13 as time goes it is", x.blocks(0), 1);
    is("18 coarse", x.buckets(0, true), 1);
  }

  /** The first times of a block may be older than KEEP; a block goes as a whole, by its last one. */
  private static void lastTimeOfTheFirst() {
    MeridianSeries x = storeWithBlock(100, 3, 60);
    addBlock(x, 0, 61, 100);
    x.setKeep(40, 0);
    is("9 no events", x.goOn(1), 0);
    is("13 101 - 40 is above 60: the first one is gone", x.blocks(0), 2);
    is("15 the next one has 61 still", x.point(0, 0, 0, false), 61);
    goOnTo(x, 140);
    is("13 100 is not below 140 - 40", x.blocks(0), 2);
    x.goOn(1);
    is("13 100 is below 141 - 40", x.blocks(0), 1);
    is("20 buckets at 0, 60 and 100", x.items(0), 3);
  }

  /** "as long as": all that are due, and no more, in one step. */
  private static void manyAtOnce() {
    MeridianSeries x = storeAt(100);
    x.setSpan(2);
    x.putRow(0, 10, 1, 1, 1, 16);
    x.setKeep(79, 0);
    x.goOn(1);
    is("13 11 to 21 are below 101 - 79, 23 is not", x.blocks(0), 3);
    is("15 the first time", x.point(0, 0, 0, false), 22);
    is("19 all of 10 to 19", x.ofBucket(0, false, 0, 1), 10);
    is("19 20 and 21", x.ofBucket(0, false, 1, 1), 2);
    x.setKeep(1, 0);
    x.goOn(1);
    is("13 all of them", x.blocks(0), 1);
    is("19 20 to 25", x.ofBucket(0, false, 1, 1), 6);
  }

  /** "START + WIDTH of the first one is not above NOW - LONG KEEP": at it, too. */
  private static void longKeepEdge() {
    int[][] widths = {{2, 16}, {2, 300}, {10, 8}, {10, 9999}, {20, 1}, {100, 1}, {100, 2}, {100, 10000}};
    for (int[] one : widths) {
      int width = one[0];
      int longKeep = one[1];
      String what = " with width " + width + ", LONG KEEP " + longKeep;
      MeridianSeries x = storeAt(17);
      x.setWidths(width, 2);
      x.setSpan(2);
      x.putRow(0, 0, 1, 1, 1, 18);
      is("18 start 0 by the ninth block" + what, x.buckets(0, false), 1);
      x.setKeep(0, longKeep);
      goOnTo(x, width + longKeep - 1);
      is("18 its end is above NOW - LONG KEEP" + what, x.buckets(0, true), 0);
      is("18 it is fine still" + what, x.buckets(0, false), 1);
      x.goOn(1);
      is("18 its end is at NOW - LONG KEEP" + what, x.buckets(0, true), 1);
      is("18 it is fine no more" + what, x.buckets(0, false), 0);
      bucketIs("19 all of it" + what, x, true, 0, 0, 2, 3, 1, 2, 1, 2);
    }
  }

  private static void longKeepForEver() {
    MeridianSeries x = storeWithBlock(50, 0, 1);
    x.setKeep(1, 0);
    goOnTo(x, 11000);
    is("18 fine for ever, at first", x.buckets(0, false), 1);
    x.setKeep(1, 10000);
    x.goOn(1);
    is("18 no more", x.buckets(0, true), 1);
    goOnTo(x, 15000);
    is("18 coarse ones stay", x.buckets(0, true), 1);
    is("5 KEEP before", x.setKeep(0, 0), 1);
  }

  /** KEEP 0 keeps blocks, but not the fine buckets that came by a ninth block. */
  private static void longKeepWithoutKeep() {
    MeridianSeries x = storeAt(100);
    x.setSpan(2);
    x.putRow(0, 8, 1, 1, 1, 18);
    is("18 fine, by the ninth block", x.buckets(0, false), 1);
    x.setKeep(0, 91);
    x.goOn(1);
    is("18 0 + 10 is not above 101 - 91", x.buckets(0, false), 0);
    is("18 coarse", x.buckets(0, true), 1);
    is("13 KEEP 0", x.blocks(0), 9);
  }

  /** A block that goes to fine buckets as NOW goes on by 1 is coarse by that step, if that is due. */
  private static void allInOneStep() {
    MeridianSeries x = storeWithBlock(40, 18, 21);
    x.setKeep(1, 11);
    x.goOn(1);
    is("18 start 10, up to 20, is coarse", x.buckets(0, true), 1);
    is("18 start 20, up to 30, is at 30 = 41 - 11", x.buckets(0, false), 0);
    MeridianSeries y = storeWithBlock(40, 18, 21);
    y.setKeep(1, 12);
    y.goOn(1);
    is("18 start 10 is coarse", y.buckets(0, true), 1);
    is("18 start 20 is fine: 30 is above 41 - 12", y.buckets(0, false), 1);
  }

  private static void openBlocksStay() {
    MeridianSeries x = storeAt(50);
    x.putRow(0, 0, 1, 1, 1, 7);
    x.setKeep(1, 1);
    x.goOn(100);
    is("14 the open block stays, old as it is", x.size(0, 0), 7);
    is("34 and would not be rolled up", x.wouldRoll(1), 0);
    is("7 it is put to still", x.put(0, 0, 9), 7);
    is("7 and then sealed", x.put(0, 7, 9), 0);
    x.goOn(1);
    is("18 and rolled up", x.buckets(0, true), 1);
    is("20 one item", x.items(0), 1);
  }

  /** "of all that is in it COUNT, SUM, MIN, MAX, FIRST and LAST", of points and of fine buckets. */
  private static void numbersOfBuckets() {
    MeridianSeries x = storeAt(200);
    x.setWidths(10, 3);
    x.setSpan(12);
    int[] values = {5, -3, 9, 2, 1, 20, -30, 4, 7, -8, 11, 6};
    for (int i = 0; i < 12; i++) {
      x.put(0, 30 + i / 4 * 10 + i % 4, values[i]);
    }
    x.setKeep(1, 0);
    x.goOn(1);
    bucketIs("19 MIN behind the FIRST", x, false, 0, 30, 4, 13, -3, 9, 5, 2);
    bucketIs("19 MAX behind the FIRST", x, false, 1, 40, 4, -5, -30, 20, 1, 4);
    bucketIs("19 the third one", x, false, 2, 50, 4, 16, -8, 11, 7, 6);
    x.setKeep(1, 1);
    x.goOn(1);
    bucketIs("19 of three fine ones", x, true, 0, 30, 12, 24, -30, 20, 5, 6);
    MeridianSeries y = storeAt(100);
    y.setSpan(4);
    for (int i = 0; i < 4; i++) {
      y.put(0, 20 + i, -100000 + i * 50000);
    }
    y.setKeep(1, 0);
    y.goOn(1);
    bucketIs("19 MIN is the FIRST, MAX the LAST", y, false, 0, 20, 4, -100000, -100000, 50000, -100000, 50000);
  }

  /** "What goes into a BUCKET goes into the last one, if that has this START": from another block, too. */
  private static void intoTheLastBucket() {
    MeridianSeries x = storeAt(100);
    addBlock(x, 0, 20, 21);
    x.setKeep(1, 0);
    x.goOn(1);
    addBlock(x, 0, 29, 30);
    x.goOn(1);
    is("18 20 and 30", x.buckets(0, false), 2);
    bucketIs("19 29 is in the first one", x, false, 0, 20, 3, 4, 1, 2, 1, 1);
    bucketIs("19 30 is not", x, false, 1, 30, 1, 2, 2, 2, 2, 2);
  }

  /** "otherwise into a new one behind that": a START whose fine bucket is coarse comes again. */
  private static void aStartThatComesAgain() {
    MeridianSeries x = storeAt(200);
    addBlock(x, 0, 60, 61);
    x.setKeep(1, 1);
    x.goOn(1);
    is("18 coarse", x.buckets(0, true), 1);
    x.setKeep(1, 0);
    x.put(0, 62, 10);
    x.put(0, 63, -4);
    x.goOn(1);
    bucketIs("19 a fine one with the old START", x, false, 0, 60, 2, 6, -4, 10, 10, -4);
    bucketIs("19 the coarse one is as it was", x, true, 0, 60, 2, 3, 1, 2, 1, 2);
    is("20 two items of one time", x.items(0), 2);
    x.setQuery(60, 1, 5, 0);
    is("22 the LAST of the last one", x.ask(0, 0), -4);
    x.setQuery(60, 1, 4, 0);
    is("22 the FIRST of the first one", x.ask(0, 0), 1);
    x.setQuery(60, 1, 0, 0);
    is("22 both are in it", x.ask(0, 0), 4);
    x.setKeep(1, 1);
    x.goOn(1);
    is("18 one coarse one", x.buckets(0, true), 1);
    bucketIs("19 it has all", x, true, 0, 60, 4, 9, -4, 10, 1, -4);
  }

  /** Points every 2, each in a fine bucket of its own; two of them in a coarse one. */
  private static MeridianSeries storeOfNarrow(int points) {
    MeridianSeries x = storeAt(900);
    x.setSpan(2);
    x.setWidths(2, 2);
    for (int i = 0; i < points; i += 2) {
      x.putRow(0, i * 2, i, 2, 1, 2);
    }
    return x;
  }

  /** "Whenever there are 25 FINE BUCKETS of a SERIES, the first one is rolled up at once" */
  private static void twentyFiveFine() {
    MeridianSeries x = storeOfNarrow(16);
    x.setKeep(1, 0);
    x.goOn(1);
    is("18 16 fine", x.buckets(0, false), 16);
    x.putRow(0, 32, 16, 2, 1, 8);
    x.goOn(1);
    is("18 24 fine stay", x.buckets(0, false), 24);
    is("18 none is coarse", x.buckets(0, true), 0);
    x.put(0, 48, 24);
    x.put(0, 49, 25);
    x.goOn(1);
    is("18 with a 25th the first one is rolled up", x.buckets(0, false), 24);
    bucketIs("19 it, and no other", x, true, 0, 0, 1, 0, 0, 0, 0, 0);
    is("19 the first fine one now", x.ofBucket(0, false, 0, 0), 2);
    bucketIs("19 the 25th has both", x, false, 23, 48, 2, 49, 24, 25, 24, 25);
    is("20 items", x.items(0), 25);
  }

  /** Also in the midst of a block that is rolled up as a point is put, LONG KEEP being 0. */
  private static void twentyFiveFineByPut() {
    MeridianSeries x = storeOfNarrow(16 + 24);
    is("18 24 fine, by 12 blocks", x.buckets(0, false), 24);
    is("18 none is coarse", x.buckets(0, true), 0);
    x.put(0, 80, 40);
    is("18 nothing new as none is sealed", x.buckets(0, true), 0);
    x.put(0, 82, 41);
    is("18 24 fine", x.buckets(0, false), 24);
    is("19 the first fine one", x.ofBucket(0, false, 0, 0), 4);
    is("19 the last fine one", x.ofBucket(0, false, 23, 0), 50);
    bucketIs("19 two of them in a coarse one", x, true, 0, 0, 2, 1, 0, 1, 0, 1);
    MeridianSeries y = storeAt(200);
    y.setSpan(16);
    y.setWidths(2, 2);
    for (int row = 0; row < 6; row++) {
      y.putRow(0, row * 26, row * 13, 2, 1, 13);
    }
    y.putRow(0, 156, 78, 2, 1, 2);
    y.setKeep(1, 0);
    y.goOn(1);
    is("18 80 points at once: 24 fine", y.buckets(0, false), 24);
    is("18 56 in 24 of 28 coarse ones", y.buckets(0, true), 24);
    is("19 the first of these", y.ofBucket(0, true, 0, 0), 16);
  }

  /** "whenever there are 25 COARSE ones, the first one is gone for good" */
  private static void twentyFiveCoarse() {
    MeridianSeries x = storeOfNarrow(16 + 24 + 48);
    is("18 24 coarse stay", x.buckets(0, true), 24);
    is("19 the first one", x.ofBucket(0, true, 0, 0), 0);
    is("18 24 fine", x.buckets(0, false), 24);
    is("20 items", x.items(0), 24 + 24 + 16);
    x.put(0, 176, 88);
    x.put(0, 178, 89);
    is("18 with a 25th the first one is gone", x.buckets(0, true), 24);
    bucketIs("19 the first one now", x, true, 0, 4, 2, 5, 2, 3, 2, 3);
    bucketIs("19 the last one", x, true, 23, 96, 2, 97, 48, 49, 48, 49);
    is("25 nothing is below it", x.lastAt(0, 3), -1);
    is("20 items", x.items(0), 24 + 24 + 16);
    x.putRow(0, 180, 90, 2, 1, 4);
    is("19 two more are gone", x.ofBucket(0, true, 0, 0), 12);
  }

  private static void seriesByThemselves() {
    MeridianSeries x = storeAt(100);
    for (int i = 1; i < 6; i++) {
      x.addSeries(1, 1);
    }
    x.setSpan(2);
    for (int i = 0; i < 6; i++) {
      x.putRow(i, i * 10, i, 1, 0, 2);
    }
    x.setKeep(70, 0);
    x.goOn(1);
    for (int i = 0; i < 6; i++) {
      is("13 series " + i + ", by its own times", x.blocks(i), i < 3 ? 1 : 2);
      is("18 series " + i + ", by its own times", x.buckets(i, false), i < 3 ? 1 : 0);
    }
    is("19 its own start", x.ofBucket(2, false, 0, 0), 20);
    x.goOn(1);
    is("18 31 is below 102 - 70", x.buckets(3, false), 1);
    is("18 41 is not below 102 - 70", x.buckets(4, false), 0);
  }

  /** "how many BLOCKS would be rolled up as NOW goes on by 1, if KEEP was that; 0 if it is 0" */
  private static void wouldRollEdge() {
    MeridianSeries x = storeWithBlock(10100, 20, 100);
    is("34 100 is below 10101 - 10000", x.wouldRoll(10000), 1);
    MeridianSeries y = storeWithBlock(10099, 20, 100);
    is("34 100 is not below 10100 - 10000", y.wouldRoll(10000), 0);
    is("34 100 is below 10100 - 9999", y.wouldRoll(9999), 1);
    is("34 KEEP 1", y.wouldRoll(1), 1);
    is("34 KEEP 0", y.wouldRoll(0), 0);
    MeridianSeries z = storeWithBlock(100, 20, 100);
    is("34 100 is not below 101 - 1", z.wouldRoll(1), 0);
    z.goOn(1);
    is("34 100 is below 102 - 1", z.wouldRoll(1), 1);
    is("13 it is there still", z.blocks(0), 2);
    is("34 without a sealed block", storeAt(100).wouldRoll(1), 0);
  }

  private static void wouldRollOverSeries() {
    MeridianSeries x = fullStore();
    is("34 all that are sealed, of 6 series", x.wouldRoll(1), 48);
    // The last times of blocks are 190, 222, 254, .. 414; NOW will be 501.
    is("34 190 is below 501 - 310", x.wouldRoll(310), 6);
    is("34 190 is not below 501 - 311", x.wouldRoll(311), 0);
    is("34 222 is not below 501 - 279", x.wouldRoll(279), 6);
    is("34 222 is below 501 - 278", x.wouldRoll(278), 12);
    is("34 414 is not below 501 - 87", x.wouldRoll(87), 42);
    is("34 414 is below 501 - 86", x.wouldRoll(86), 48);
    is("34 nothing is rolled up", x.blocks(5), 9);
  }

  /** What wouldRoll tells comes so with that KEEP; the KEEP that is set counts for nothing. */
  private static void wouldRollAsItComes() {
    for (int keep : new int[] {1, 86, 87, 200, 310, 311, 10000}) {
      MeridianSeries x = fullStore();
      x.setKeep(5, 7);
      int told = x.wouldRoll(keep);
      x.setKeep(keep, 0);
      x.goOn(1);
      int gone = 0;
      for (int series = 0; series < 6; series++) {
        gone += 9 - x.blocks(series);
      }
      is("34 it comes so with " + keep, gone, told);
    }
  }
}
