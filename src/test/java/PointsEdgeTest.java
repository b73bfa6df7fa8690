/** The edges that "1 POINTS" names, sentence by sentence, with promises 1 to 3, 7, 8, 10 to 15, 20. */
public final class PointsEdgeTest extends Check {
  public static void main(String[] args) {
    numberedFrom0();
    timesAndValues();
    emptyOpenBlock();
    placesByTime();
    insteadOfAnother();
    lateByBlock();
    lateByAllThatIsGone();
    lateLeavesAllAsItIs();
    spanAtFirst();
    smallestAndGreatestSpan();
    spanMadeSmaller();
    lateSealsNothing();
    ninthSealedBlock();
    ninthOfRows();
    noOtherIsRolledUp();
    fullSeries();
    rows();
    rowsAcrossLateTimes();
    callsOf512();
    end("edges of points");
  }

  private static void pointIs(String what, MeridianSeries x, int block, int point, int time, int value) {
    is(what + ": time", x.point(0, block, point, false), time);
    is(what + ": value", x.point(0, block, point, true), value);
  }

  /** "There are at most 6 SERIES, numbered from 0, each with two LABELS, 0 to 9." */
  private static void numberedFrom0() {
    MeridianSeries x = new MeridianSeries();
    for (int i = 0; i < 6; i++) {
      is("11 series ahead of number " + i, x.series(), i);
      is("2 numbers go from 0", x.addSeries(i == 5 ? 9 : 0, i == 5 ? 0 : 9), i);
    }
    is("11 at most 6", x.series(), 6);
    is("23 label 0, the first one of 5 series", x.over(false, 0, 3, 0), 0);
    x.setQuery(0, 10, 0, 0);
    is("23 label 0, the first one of 5 series", x.over(false, 0, 3, 0), 5);
    is("23 label 9, the first one of 1", x.over(false, 9, 3, 0), 1);
    is("23 label 9, the second one of 5", x.over(true, 9, 3, 0), 5);
    is("23 label 0, the second one of 1", x.over(true, 0, 3, 0), 1);
    x.put(5, 0, 7);
    is("7 the sixth one has its own points", x.items(5), 1);
    is("7 the others have none of it", x.items(4), 0);
  }

  /** "A POINT has a time, 0 to 99999, and a value, -100000 to 100000. NOW is 0 at first" */
  private static void timesAndValues() {
    MeridianSeries x = storeAt(0);
    is("10 NOW is 0 at first", x.now(), 0);
    is("7 time 0 at NOW 0", x.put(0, 0, -100000), 1);
    pointIs("7 the least value", x, 0, 0, 0, -100000);
    is("7 once more, with the greatest value", x.put(0, 0, 100000), 1);
    pointIs("7 the greatest value", x, 0, 0, 0, 100000);
    x.goOn(1);
    is("7 time 1 at NOW 1", x.put(0, 1, 0), 2);
    pointIs("7 value 0", x, 0, 1, 1, 0);
    goOnTo(x, 30000);
    is("7 at NOW, far on", x.put(0, 30000, -1), 3);
    pointIs("7 far on", x, 0, 2, 30000, -1);
  }

  /** "the last one is OPEN (it can be without POINTS), the others are SEALED" */
  private static void emptyOpenBlock() {
    MeridianSeries x = storeAt(50);
    is("13 a new series has the open one", x.blocks(0), 1);
    is("14 without points", x.size(0, 0), 0);
    is("20 no items", x.items(0), 0);
    x.setSpan(2);
    x.putRow(0, 1, 1, 1, 1, 2);
    is("13 a sealed one, and a new one", x.blocks(0), 2);
    is("14 the sealed one", x.size(0, 0), 2);
    is("14 the open one is without points", x.size(0, 1), 0);
    is("16 the open one has no bits", x.bits(0, 1), 0);
    is("20 items", x.items(0), 2);
    x.put(0, 3, 1);
    is("14 the open one with a point", x.size(0, 1), 1);
    is("16 it has no bits still", x.bits(0, 1), 0);
  }

  /** "A POINT is put to the OPEN BLOCK, in its place by time" */
  private static void placesByTime() {
    MeridianSeries x = storeAt(50);
    x.setSpan(16);
    is("7 the first one", x.put(0, 20, 1), 1);
    is("7 ahead of all", x.put(0, 19, 2), 2);
    is("7 behind all", x.put(0, 21, 3), 3);
    is("7 time 0, ahead of all", x.put(0, 0, 4), 4);
    is("7 between", x.put(0, 10, 5), 5);
    is("7 NOW, behind all", x.put(0, 50, 6), 6);
    int[] times = {0, 10, 19, 20, 21, 50};
    int[] values = {4, 5, 2, 1, 3, 6};
    for (int i = 0; i < 6; i++) {
      pointIs("7 in its place " + i, x, 0, i, times[i], values[i]);
    }
  }

  /** "or instead of one that has its time there", "no time twice" */
  private static void insteadOfAnother() {
    MeridianSeries x = storeAt(50);
    x.setSpan(5);
    x.putRow(0, 10, 1, 10, 1, 4);
    is("7 instead of the first one", x.put(0, 10, 91), 4);
    is("7 instead of one between", x.put(0, 20, 92), 4);
    is("7 instead of the last one", x.put(0, 40, 94), 4);
    is("7 with the same value", x.put(0, 30, 3), 4);
    is("13 nothing is sealed by that", x.blocks(0), 1);
    is("20 no time twice", x.items(0), 4);
    int[] values = {91, 92, 3, 94};
    for (int i = 0; i < 4; i++) {
      pointIs("7 instead", x, 0, i, 10 + i * 10, values[i]);
    }
    is("12 none was late", x.late(), 0);
  }

  /** "it is LATE, and not put, if its time is not above the greatest time that the SERIES has in SEALED BLOCKS" */
  private static void lateByBlock() {
    MeridianSeries x = storeAt(100);
    x.addSeries(3, 3);
    x.setSpan(3);
    x.put(0, 30, 1);
    x.put(0, 40, 2);
    is("7 below all of the open block", x.put(0, 0, 3), 0);
    is("7 at the greatest sealed time", x.put(0, 40, 4), -1);
    is("7 one below it", x.put(0, 39, 4), -1);
    is("7 at the least sealed time", x.put(0, 0, 4), -1);
    is("12 three were late", x.late(), 3);
    is("7 one above it", x.put(0, 41, 4), 1);
    is("7 in another series", x.put(1, 40, 4), 1);
    is("7 time 0 in another series", x.put(1, 0, 4), 2);
    is("12 three still", x.late(), 3);
    x.put(0, 60, 5);
    is("7 below the greatest open time", x.put(0, 59, 6), 0);
    is("7 at the greatest time of the second block", x.put(0, 60, 7), -1);
    is("7 between the first block and the second", x.put(0, 41, 7), -1);
    is("7 one above the second", x.put(0, 61, 7), 1);
    MeridianSeries y = storeAt(0);
    is("7 nothing is late at first, time 0 is not", y.bitsWith(0, 0, 0), 47);
  }

  /** "or had in such as were rolled up": to fine buckets, to coarse ones, and gone for good. */
  private static void lateByAllThatIsGone() {
    MeridianSeries x = storeAt(100);
    x.setSpan(2);
    x.setWidths(2, 2);
    x.putRow(0, 40, 1, 1, 1, 2);
    x.setKeep(1, 0);
    x.goOn(1);
    is("18 it is in a fine bucket", x.buckets(0, false), 1);
    is("7 at its time", x.put(0, 41, 9), -1);
    is("32 at its time", x.bitsWith(0, 41, 9), -1);
    x.setKeep(1, 1);
    x.goOn(1);
    is("18 it is in a coarse bucket", x.buckets(0, true), 1);
    is("7 at its time", x.put(0, 41, 9), -1);
    is("32 one above", x.bitsWith(0, 42, 9), 47);
    is("7 one above", x.put(0, 42, 9), 1);
    is("12 late", x.late(), 2);
    MeridianSeries y = storeWithoutFirstPoints();
    is("22 times 0 to 3 are gone for good", y.lastAt(0, 3), -1);
    is("7 they are late all the same", y.put(0, 3, 1), -1);
    is("7 time 0 too", y.put(0, 0, 1), -1);
  }

  /** 30 points every 4 from 0 on, in coarse buckets of 4 each: the first 6 of these are gone. */
  private static MeridianSeries storeWithoutFirstPoints() {
    MeridianSeries x = storeAt(200);
    x.setSpan(2);
    x.setWidths(2, 2);
    x.putRow(0, 0, 1, 4, 1, 30);
    x.setKeep(90, 90);
    x.goOn(20);
    is("18 coarse", x.buckets(0, true), 24);
    is("19 the first start", x.ofBucket(0, true, 0, 0), 24);
    return x;
  }

  /** A late point is counted, and that is all. */
  private static void lateLeavesAllAsItIs() {
    MeridianSeries x = storeAt(100);
    x.setSpan(2);
    x.putRow(0, 40, 1, 10, 1, 3);
    is("7 late, with the time of a sealed point", x.put(0, 50, 77), -1);
    is("7 late, between", x.put(0, 45, 77), -1);
    pointIs("7 the sealed one is as it was", x, 0, 1, 50, 2);
    is("14 sealed", x.size(0, 0), 2);
    is("14 open", x.size(0, 1), 1);
    is("20 items", x.items(0), 3);
    is("12 late", x.late(), 2);
    is("32 bitsWith tells -1", x.bitsWith(0, 50, 0), -1);
    is("12 but counts nothing", x.late(), 2);
  }

  /** "as many POINTS as SPAN tells (2 to 16; 8, at first)" */
  private static void spanAtFirst() {
    MeridianSeries x = storeAt(50);
    for (int i = 1; i < 8; i++) {
      is("7 the open block with " + i, x.put(0, i, i), i);
      is("13 open still with " + i, x.blocks(0), 1);
    }
    is("7 the eighth seals", x.put(0, 8, 8), 0);
    is("13 a new one is open", x.blocks(0), 2);
    is("14 eight are sealed", x.size(0, 0), 8);
    is("7 the next one goes to the new one", x.put(0, 9, 9), 1);
    is("3 8 at first", x.setSpan(8), 8);
  }

  private static void smallestAndGreatestSpan() {
    MeridianSeries x = storeAt(50);
    x.setSpan(2);
    is("7 one of 2", x.put(0, 1, 0), 1);
    is("7 two of 2", x.put(0, 2, 0), 0);
    is("3 the span before", x.setSpan(16), 2);
    for (int i = 1; i < 16; i++) {
      is("7 " + i + " of 16", x.put(0, 10 + i, 0), i);
    }
    is("7 sixteen of 16", x.put(0, 40, 0), 0);
    is("14 16 are sealed", x.size(0, 1), 16);
    pointIs("15 the last of 16", x, 1, 15, 40, 0);
  }

  /** "(instead of another one, too)", "or more"; "a BLOCK is SEALED as a POINT is put to it, at the earliest" */
  private static void spanMadeSmaller() {
    for (int span = 2; span <= 7; span++) {
      MeridianSeries x = storeAt(50);
      x.putRow(0, 10, 1, 1, 0, 6);
      is("3 the span before", x.setSpan(span), 8);
      is("3 nothing is sealed by setting it to " + span, x.blocks(0), 1);
      x.goOn(10);
      is("3 nor by time", x.blocks(0), 1);
      is("7 instead of another one, with span " + span, x.put(0, 12, 5), span <= 6 ? 0 : 6);
      is("13 blocks with span " + span, x.blocks(0), span <= 6 ? 2 : 1);
      is("14 all six are in it", x.size(0, 0), 6);
    }
    MeridianSeries y = storeAt(50);
    y.putRow(0, 10, 1, 1, 0, 6);
    y.setSpan(6);
    is("7 a seventh one, behind all", y.put(0, 30, 5), 0);
    is("14 seven are sealed", y.size(0, 0), 7);
    MeridianSeries z = storeAt(50);
    z.setSpan(4);
    z.putRow(0, 10, 1, 1, 0, 3);
    z.setSpan(5);
    is("3 a greater span: the fourth one does not seal", z.put(0, 20, 1), 4);
    is("3 the fifth one does", z.put(0, 21, 1), 0);
  }

  /** "If, behind a POINT that was put": one that is late was not. */
  private static void lateSealsNothing() {
    MeridianSeries x = storeAt(50);
    x.setSpan(3);
    x.putRow(0, 10, 1, 1, 0, 5);
    x.setSpan(2);
    is("7 late", x.put(0, 12, 1), -1);
    is("13 two points stay open with span 2", x.blocks(0), 2);
    is("14 open", x.size(0, 1), 2);
    is("7 the next one seals three", x.put(0, 20, 1), 0);
    is("14 sealed", x.size(0, 1), 3);
  }

  /** "if the SERIES has 9 SEALED BLOCKS then, the first one, and no other, is rolled up at once" */
  private static void ninthSealedBlock() {
    MeridianSeries x = storeAt(100);
    x.setSpan(2);
    x.putRow(0, 0, 1, 1, 1, 17);
    is("13 8 sealed ones stay, with one point open", x.blocks(0), 9);
    is("18 nothing is rolled up", x.buckets(0, false), 0);
    x.goOn(100);
    is("18 KEEP is 0: nothing by time", x.buckets(0, false), 0);
    is("7 the ninth one is sealed", x.put(0, 17, 18), 0);
    is("13 8 sealed ones again", x.blocks(0), 9);
    is("14 the open one is empty", x.size(0, 8), 0);
    is("18 one is rolled up", x.buckets(0, false), 1);
    bucketIs("19 the first one, and no other", x, false, 0, 0, 2, 3, 1, 2, 1, 2);
    pointIs("15 the first point now", x, 0, 0, 2, 3);
    pointIs("15 the last point", x, 7, 1, 17, 18);
    is("20 items", x.items(0), 17);
    x.putRow(0, 18, 19, 1, 1, 2);
    bucketIs("19 the next first one", x, false, 0, 0, 4, 10, 1, 4, 1, 4);
    is("13 8 sealed ones still", x.blocks(0), 9);
  }

  private static void ninthOfRows() {
    MeridianSeries x = storeAt(100);
    x.addSeries(1, 1);
    x.setSpan(2);
    is("8 30 points, 15 blocks", x.putRow(0, 0, 1, 1, 1, 30), 30);
    is("13 8 of them are sealed", x.blocks(0), 9);
    is("19 7 are rolled up, to 0", x.ofBucket(0, false, 0, 1), 10);
    is("19 7 are rolled up, to 10", x.ofBucket(0, false, 1, 1), 4);
    is("13 the other series has none", x.blocks(1), 1);
    is("18 nor a bucket", x.buckets(1, false), 0);
  }

  /** Neither KEEP nor LONG KEEP is looked at as a point is put. */
  private static void noOtherIsRolledUp() {
    MeridianSeries x = storeAt(100);
    x.setSpan(2);
    x.setKeep(1, 1);
    x.putRow(0, 0, 1, 1, 1, 18);
    is("13 all are older than KEEP, one is rolled up", x.blocks(0), 9);
    is("18 it is fine", x.buckets(0, false), 1);
    is("18 older than LONG KEEP, but not coarse", x.buckets(0, true), 0);
    is("34 all would be", x.wouldRoll(1), 8);
    x.goOn(1);
    is("13 by time all are rolled up", x.blocks(0), 1);
    is("18 by time all are coarse", x.buckets(0, true), 1);
    is("18 none is fine", x.buckets(0, false), 0);
  }

  /** Each block, each point and each bucket of a series that has as much as can be. */
  private static void fullSeries() {
    MeridianSeries x = fullStore();
    // 223 points every 2 from 0 on; 5 blocks of 16 are rolled up, each point to a bucket of its own.
    for (int i = 0; i < 8 * 16 + 15; i++) {
      pointIs("15 point " + i + " of the full store", x, i / 16, i % 16, 160 + i * 2, 80 + i);
    }
    for (int i = 0; i < 24; i++) {
      int time = 112 + i * 2;
      bucketIs("19 fine " + i, x, false, i, time, 1, time / 2, time / 2, time / 2, time / 2, time / 2);
      int start = 16 + i * 4;
      int first = start / 2;
      bucketIs("19 coarse " + i, x, true, i, start, 2, start + 1, first, first + 1, first, first + 1);
    }
    is("20 items", x.items(0), 24 + 24 + 8 * 16 + 15);
    is("7 the last one of the full store", x.put(0, 446, 5), 0);
    is("13 the first block is rolled up", x.blocks(0), 9);
    is("15 the last point", x.point(0, 7, 15, true), 5);
    is("20 items", x.items(0), 24 + 24 + 8 * 16);
    is("15 the sixth series is as it was", x.point(5, 8, 14, true), 227);
  }

  /** "times that grow by every, values that grow by more": the first and the last of a row. */
  private static void rows() {
    MeridianSeries x = storeAt(1000);
    x.setSpan(16);
    is("8 one point at NOW", x.putRow(0, 1000, -7, 1000, -5, 1), 1);
    pointIs("8 it", x, 0, 0, 1000, -7);
    is("8 two, from 0 to NOW, one of them instead", x.putRow(0, 0, 100000, 1000, -200000, 2), 2);
    pointIs("8 the first one", x, 0, 0, 0, 100000);
    pointIs("8 the last one", x, 0, 1, 1000, -100000);
    is("14 two", x.size(0, 0), 2);
    MeridianSeries y = storeAt(29);
    is("8 30 points, from 0 to NOW 29", y.putRow(0, 0, 29, 1, -1, 30), 30);
    is("13 blocks of 8", y.blocks(0), 4);
    pointIs("8 the first one", y, 0, 0, 0, 29);
    pointIs("8 the last one", y, 3, 5, 29, 0);
    MeridianSeries z = storeAt(29000);
    is("8 30 points every 1000", z.putRow(0, 0, -100000, 1000, 6896, 30), 30);
    pointIs("8 the last one", z, 3, 5, 29000, -100000 + 29 * 6896);
  }

  /** "Returns how many were not LATE": none, some, all; and a row that makes its own points late. */
  private static void rowsAcrossLateTimes() {
    MeridianSeries x = storeAt(100);
    x.putRow(0, 20, 1, 1, 1, 8);
    is("8 all are late", x.putRow(0, 0, 1, 9, 1, 4), 0);
    is("12 late", x.late(), 4);
    is("8 up to 27 late, 28 not", x.putRow(0, 26, 1, 1, 1, 3), 1);
    is("12 late", x.late(), 6);
    is("8 none is late", x.putRow(0, 28, 1, 1, 1, 7), 7);
    is("14 open: 28 was put instead", x.size(0, 1), 7);
    MeridianSeries y = storeAt(100);
    y.put(0, 50, 1);
    is("8 sealed with 50 at 7 of a row, the others late up to 50", y.putRow(0, 41, 1, 1, 1, 13), 7 + 3);
    is("12 late", y.late(), 3);
    is("14 sealed", y.size(0, 0), 8);
    is("14 open", y.size(0, 1), 3);
  }

  /** "An object is used for at most 512 calls after it has been made" */
  private static void callsOf512() {
    MeridianSeries x = new MeridianSeries();
    x.addSeries(1, 2);
    for (int call = 2; call < 512; call++) {
      is("9 no event", x.goOn(100), 0);
    }
    is("10 NOW at the 512th call", x.now(), 51000);
  }
}
