/** The edges that "4 WINDOWS" names, sentence by sentence, with promises 6, 20 and 22 to 25. */
public final class WindowEdgeTest extends Check {
  private static final int COUNT = 0;
  private static final int SUM = 1;
  private static final int MAX = 3;
  private static final int FIRST = 4;
  private static final int LAST = 5;
  private static final int MEAN = 6;

  public static void main(String[] args) {
    queryAtFirst();
    queryFromThenOn();
    fromUpToButWithout();
    firstAndLastWindow();
    allThatIsTold();
    oneItemAlone();
    meansAreCutTowards0();
    itemsOfAllKinds();
    toldOfAllKinds();
    bucketsByTheirStarts();
    countOfGaps();
    fillNothingAndZero();
    fillLast();
    fillLine();
    linesAreCutTowards0();
    linesFarOff();
    linesBetweenBuckets();
    sumsThatAreNothing();
    overEach();
    overWhatTellsNothing();
    overAllSix();
    gapsEdge();
    gapsOfBuckets();
    lastAtEdge();
    lastAtBuckets();
    emptySeries();
    end("edges of windows");
  }

  private static int asked(MeridianSeries x, int from, int step, int what, int fill) {
    x.setQuery(from, step, what, fill);
    return x.ask(0, 0);
  }

  private static void toldAre(String what, MeridianSeries x, int from, int step, int... due) {
    for (int i = 0; i < due.length; i++) {
      is(what + ", told " + i, asked(x, from, step, i, 0), due[i]);
    }
  }

  /** "a beginning (0, at first), a STEP (10), WHAT is told (1, of 0 to 7), and FILL (0)" */
  private static void queryAtFirst() {
    MeridianSeries x = storeAt(50);
    x.put(0, 0, 5);
    x.put(0, 9, 6);
    x.put(0, 10, 7);
    is("22 from 0 up to 9, the SUM", x.ask(0, 0), 11);
    is("22 from 10 on", x.ask(0, 1), 7);
    is("22 FILL 0", x.ask(0, 2), NOTHING);
    is("6 STEP was 10", x.setQuery(99999, 10000, 0, 3), 10);
    is("6 STEP was 10000", x.setQuery(0, 1, 7, 0), 10000);
    is("6 STEP was 1", x.setQuery(0, 1, 7, 0), 1);
  }

  /** Each of the four is used as it is set. */
  private static void queryFromThenOn() {
    MeridianSeries x = storeAt(100);
    x.putRow(0, 20, 1, 1, 1, 7);
    x.setQuery(21, 2, SUM, 0);
    is("6 the beginning", x.ask(0, 0), 2 + 3);
    is("6 the step", x.ask(0, 2), 6 + 7);
    x.setQuery(21, 2, MAX, 0);
    is("6 WHAT", x.ask(0, 2), 7);
    is("6 FILL 0", x.ask(0, 3), NOTHING);
    x.setQuery(21, 2, MAX, 2);
    is("6 FILL 2", x.ask(0, 3), 7);
    is("23 over by it, too", x.over(false, 1, 0, 3), 7);
  }

  /** "A WINDOW is all times from one up to, but without, another one" */
  private static void fromUpToButWithout() {
    MeridianSeries x = storeAt(100);
    x.put(0, 50, 8);
    is("22 from its time on", asked(x, 50, 1, COUNT, 0), 1);
    is("22 up to its time, and without", asked(x, 40, 10, COUNT, 0), 0);
    is("22 up to one behind it", asked(x, 40, 11, COUNT, 0), 1);
    is("22 from one behind it on", asked(x, 51, 10, COUNT, 0), 0);
    is("22 one ahead of it alone", asked(x, 49, 1, COUNT, 0), 0);
    x.put(0, 0, 9);
    is("22 time 0", asked(x, 0, 1, SUM, 0), 9);
    is("22 all", asked(x, 0, 10000, COUNT, 0), 2);
    x.put(0, 100, 7);
    is("22 NOW is in it", asked(x, 100, 1, SUM, 0), 7);
  }

  /** "its WINDOW k goes from the beginning + k * STEP, and is as long as STEP": k from 0 to 1000. */
  private static void firstAndLastWindow() {
    MeridianSeries x = storeAt(12100);
    x.putRow(0, 12000, 1, 1, 1, 30);
    x.setQuery(2000, 10, SUM, 0);
    is("22 window 999 is without 12000", x.ask(0, 999), NOTHING);
    is("22 window 1000 is from 12000 up to 12009", x.ask(0, 1000), 55);
    x.setQuery(12000, 10, SUM, 0);
    is("22 window 0", x.ask(0, 0), 55);
    is("22 window 2", x.ask(0, 2), 255);
    is("22 window 3", x.ask(0, 3), NOTHING);
    x.setQuery(99999, 10000, SUM, 2);
    is("22 window 1000, behind all times", x.ask(0, 1000), 30);
    x.setQuery(99999, 10000, SUM, 3);
    is("22 there is no line behind all", x.ask(0, 1000), NOTHING);
  }

  /** "0 COUNT, 1 SUM, 2 MIN, 3 MAX of all its ITEMS, 4 the FIRST .. 5 the LAST .., 6 the MEAN .., 7 MAX - MIN" */
  private static void allThatIsTold() {
    MeridianSeries x = storeAt(100);
    int[] values = {7, 50, -9, 12};
    for (int i = 0; i < 4; i++) {
      x.put(0, 40 + i, values[i]);
    }
    toldAre("22 MAX and MIN between", x, 40, 4, 4, 60, -9, 50, 7, 12, 15, 59);
    toldAre("22 MAX last, MIN first", x, 42, 2, 2, 3, -9, 12, -9, 12, 1, 21);
    toldAre("22 MAX first, MIN last", x, 41, 2, 2, 41, -9, 50, 50, -9, 20, 59);
    x.put(0, 60, -100000);
    x.put(0, 61, 100000);
    toldAre("22 the greatest MAX - MIN", x, 60, 2, 2, 0, -100000, 100000, -100000, 100000, 0, 200000);
  }

  private static void oneItemAlone() {
    MeridianSeries x = storeAt(100);
    x.put(0, 70, -4);
    toldAre("22 one point", x, 70, 1, 1, -4, -4, -4, -4, -4, -4, 0);
    toldAre("22 a gap", x, 71, 1, 0, NOTHING, NOTHING, NOTHING, NOTHING, NOTHING, NOTHING, NOTHING);
  }

  /** "6 the MEAN: SUM / COUNT", "/ is cut towards 0" */
  private static void meansAreCutTowards0() {
    MeridianSeries x = storeAt(100);
    int[] values = {5, 6, -5, -6, 1, 0, -1, 0};
    for (int i = 0; i < 8; i++) {
      x.put(0, 10 + i, values[i]);
    }
    is("22 11 / 2", asked(x, 10, 2, MEAN, 0), 5);
    is("22 -11 / 2", asked(x, 12, 2, MEAN, 0), -5);
    is("22 1 / 2", asked(x, 14, 2, MEAN, 0), 0);
    is("22 -1 / 2", asked(x, 16, 2, MEAN, 0), 0);
    is("22 0 / 8", asked(x, 10, 8, MEAN, 0), 0);
    is("22 6 / 3", asked(x, 10, 3, MEAN, 0), 2);
  }

  /** Coarse 0 with 1 and 2, fine 60 with 10 and -20, a sealed block with 70 and 71, and 80 open. */
  private static MeridianSeries storeOfAllKinds() {
    MeridianSeries x = storeAt(100);
    x.setSpan(2);
    int[] times = {50, 51, 66, 68, 70, 71};
    int[] values = {1, 2, 10, -20, 300, 4};
    for (int i = 0; i < 6; i++) {
      x.put(0, times[i], values[i]);
    }
    x.put(0, 80, -5);
    x.setKeep(31, 41);
    x.goOn(1);
    return x;
  }

  /** "The ITEMS of a SERIES are its COARSE BUCKETS, its FINE ones and its POINTS" */
  private static void itemsOfAllKinds() {
    MeridianSeries x = storeOfAllKinds();
    is("18 coarse", x.buckets(0, true), 1);
    is("18 fine", x.buckets(0, false), 1);
    is("13 blocks", x.blocks(0), 2);
    is("20 items", x.items(0), 1 + 1 + 2 + 1);
    is("20 none", storeAt(1).items(0), 0);
  }

  private static void toldOfAllKinds() {
    MeridianSeries x = storeOfAllKinds();
    toldAre("22 all items", x, 0, 1000, 7, 292, -20, 300, 1, -5, 41, 320);
    toldAre("22 the coarse one", x, 0, 60, 2, 3, 1, 2, 1, 2, 1, 1);
    toldAre("22 the fine one", x, 60, 10, 2, -10, -20, 10, 10, -20, -5, 30);
    toldAre("22 coarse and fine", x, 0, 70, 4, -7, -20, 10, 1, -20, -1, 30);
    toldAre("22 fine and sealed", x, 60, 12, 4, 294, -20, 300, 10, 4, 73, 320);
    toldAre("22 sealed and open", x, 70, 11, 3, 299, -5, 300, 300, -5, 99, 305);
  }

  /** "the time of a BUCKET is its START" */
  private static void bucketsByTheirStarts() {
    MeridianSeries x = storeOfAllKinds();
    is("22 the coarse one is at 0", asked(x, 0, 1, COUNT, 0), 2);
    is("22 and not at 50", asked(x, 1, 59, COUNT, 0), 0);
    is("22 the fine one is at 60", asked(x, 60, 1, COUNT, 0), 2);
    is("22 and not at 66", asked(x, 61, 9, COUNT, 0), 0);
    is("22 up to 60, and without", asked(x, 0, 60, COUNT, 0), 2);
    is("22 up to 61", asked(x, 0, 61, COUNT, 0), 4);
    is("22 a gap at 61 has the fine one ahead of it", asked(x, 61, 9, SUM, 2), -20);
    is("22 a gap at 1 has the coarse one ahead of it", asked(x, 1, 59, SUM, 2), 2);
  }

  /** "Without ITEMS a WINDOW is a GAP: it tells 0 for COUNT, otherwise what FILL tells" */
  private static void countOfGaps() {
    MeridianSeries x = storeAt(100);
    x.put(0, 10, 40);
    x.put(0, 30, 60);
    for (int fill = 0; fill < 4; fill++) {
      is("22 COUNT of a gap between, FILL " + fill, asked(x, 15, 5, COUNT, fill), 0);
      is("22 COUNT of a gap behind, FILL " + fill, asked(x, 35, 5, COUNT, fill), 0);
      is("22 COUNT of no gap, FILL " + fill, asked(x, 10, 5, COUNT, fill), 1);
    }
    int[] due = {NOTHING, 0, 40, 40 + 20 * 5 / 20};
    for (int what = SUM; what < 8; what++) {
      for (int fill = 0; fill < 4; fill++) {
        is("22 a gap, FILL " + fill + ", told " + what, asked(x, 15, 5, what, fill), due[fill]);
      }
    }
  }

  /** "0 NOTHING; 1 0", whatever is ahead or behind; and no FILL where there are ITEMS. */
  private static void fillNothingAndZero() {
    MeridianSeries x = storeAt(100);
    is("22 0 NOTHING without any item", asked(x, 0, 10, SUM, 0), NOTHING);
    is("22 1 0 without any item", asked(x, 0, 10, SUM, 1), 0);
    x.put(0, 50, 3);
    for (int from : new int[] {0, 49, 51, 90}) {
      is("22 0 NOTHING at " + from, asked(x, from, 1, SUM, 0), NOTHING);
      is("22 1 0 at " + from, asked(x, from, 1, SUM, 1), 0);
    }
    for (int fill = 0; fill < 4; fill++) {
      is("22 no FILL where there is an item, FILL " + fill, asked(x, 50, 1, SUM, fill), 3);
    }
  }

  /** "2 the LAST of the last ITEM whose time is below the beginning of the WINDOW" */
  private static void fillLast() {
    MeridianSeries x = storeAt(100);
    is("22 without any item", asked(x, 50, 5, SUM, 2), NOTHING);
    x.put(0, 60, 3);
    is("22 with an item behind alone", asked(x, 55, 5, SUM, 2), NOTHING);
    is("22 one below the beginning", asked(x, 61, 5, SUM, 2), 3);
    is("22 far below the beginning", asked(x, 99999, 10000, SUM, 2), 3);
    x.put(0, 40, 8);
    is("22 one below the beginning", asked(x, 41, 5, SUM, 2), 8);
    is("22 the last one of two", asked(x, 70, 5, SUM, 2), 3);
    is("22 the end is at the next one", asked(x, 50, 10, SUM, 2), 8);
    is("22 the end is one behind the next one: no gap", asked(x, 50, 11, SUM, 2), 3);
  }

  /** "3 a LINE: with that ITEM p, .. the first ITEM q whose time is not below the end" */
  private static void fillLine() {
    MeridianSeries x = storeAt(100);
    is("22 without any item", asked(x, 50, 5, SUM, 3), NOTHING);
    x.put(0, 60, 30);
    is("22 without p", asked(x, 55, 5, SUM, 3), NOTHING);
    is("22 without q", asked(x, 61, 5, SUM, 3), NOTHING);
    x.put(0, 40, 10);
    is("22 q at the end", asked(x, 50, 10, SUM, 3), 20);
    is("22 p one below the beginning", asked(x, 41, 5, SUM, 3), 11);
    is("22 one time, one ahead of q", asked(x, 59, 1, SUM, 3), 29);
    is("22 all between", asked(x, 41, 19, SUM, 3), 11);
    is("22 without p still", asked(x, 0, 40, SUM, 3), NOTHING);
    x.put(0, 80, -1000);
    is("22 the first q, not a later one", asked(x, 50, 5, SUM, 3), 20);
    is("22 the last p, not an earlier one", asked(x, 70, 5, SUM, 3), 30 - 1030 * 10 / 20);
  }

  /** "(FIRST of q - LAST of p) * (w - t) / (u - t)": cut towards 0, up and down, then added. */
  private static void linesAreCutTowards0() {
    MeridianSeries x = storeAt(100);
    x.put(0, 10, 5);
    x.put(0, 17, 7);
    x.put(0, 24, 5);
    x.put(0, 31, -5);
    is("22 5 + 2 * 3 / 7", asked(x, 13, 1, SUM, 3), 5);
    is("22 5 + 2 * 4 / 7", asked(x, 14, 1, SUM, 3), 6);
    is("22 7 - 2 * 3 / 7", asked(x, 20, 1, SUM, 3), 7);
    is("22 7 - 2 * 4 / 7", asked(x, 21, 1, SUM, 3), 6);
    is("22 5 - 10 * 3 / 7", asked(x, 27, 1, SUM, 3), 1);
    is("22 5 - 10 * 4 / 7 is 5 - 5", asked(x, 28, 1, SUM, 3), 0);
    is("22 5 - 10 * 6 / 7 is 5 - 8", asked(x, 30, 1, SUM, 3), -3);
    MeridianSeries y = storeAt(100);
    y.put(0, 10, -4);
    y.put(0, 20, -4);
    is("22 a flat line", asked(y, 15, 1, SUM, 3), -4);
    MeridianSeries z = storeAt(100);
    z.put(0, 0, 9);
    z.put(0, 2, -9);
    is("22 the shortest line", asked(z, 1, 1, SUM, 3), 0);
  }

  /** The product of the greatest rise and a long time is beyond an int. */
  private static void linesFarOff() {
    MeridianSeries x = storeAt(50000);
    x.put(0, 0, 100000);
    x.put(0, 50000, -100000);
    is("22 down by 200000", asked(x, 49999, 1, SUM, 3), -99996);
    is("22 down by 200000, the first step", asked(x, 1, 1, SUM, 3), 99996);
    is("22 in the midst", asked(x, 24999, 7, SUM, 3), 4);
    is("22 up to the end", asked(x, 40000, 10000, SUM, 3), -60000);
  }

  /** "LAST of p", "FIRST of q", "its time t": also of buckets, coarse and fine, by their STARTS. */
  private static void linesBetweenBuckets() {
    MeridianSeries x = storeOfAllKinds();
    is("22 from coarse to fine: 2 + 8 * 30 / 60", asked(x, 30, 1, SUM, 3), 6);
    is("22 from fine to a point: -20 + 320 * 5 / 10", asked(x, 65, 2, SUM, 3), 140);
    is("22 from point to point: 4 - 9 * 5 / 9", asked(x, 76, 1, SUM, 3), -1);
  }

  /** "NOTHING is the number -1000000 (also if a SUM is that)" */
  private static void sumsThatAreNothing() {
    MeridianSeries x = storeAt(100);
    x.addSeries(1, 2);
    x.setSpan(16);
    x.putRow(0, 10, -100000, 1, 0, 10);
    is("22 a SUM of -1000000", asked(x, 10, 10, SUM, 1), NOTHING);
    is("22 it is no gap", asked(x, 10, 10, COUNT, 1), 10);
    is("24 it is no gap", x.gaps(0, 1), 0);
    is("22 its MEAN", asked(x, 10, 10, MEAN, 0), -100000);
    x.setQuery(10, 10, SUM, 0);
    is("23 left out", x.over(false, 1, 3, 0), 0);
    is("23 left out", x.over(false, 1, 0, 0), NOTHING);
    x.put(0, 19, -99999);
    is("22 a SUM of -999999", x.ask(0, 0), -999999);
    is("23 not left out", x.over(false, 1, 3, 0), 1);
    x.put(0, 20, -2);
    x.setQuery(10, 11, SUM, 0);
    is("22 a SUM of -1000001", x.ask(0, 0), -1000001);
    is("23 not left out", x.over(false, 1, 1, 0), -1000001);
    x.put(1, 15, 1);
    is("23 the sum over all is -1000000 itself", x.over(false, 1, 0, 0), -1000000);
    is("23 of two", x.over(false, 1, 3, 0), 2);
  }

  /** "how: 0 the sum, 1 the least, 2 the greatest one, 3 how many", of both LABELS. */
  private static void overEach() {
    MeridianSeries x = new MeridianSeries();
    x.addSeries(0, 9);
    x.addSeries(0, 0);
    x.addSeries(9, 0);
    x.goOn(50);
    x.put(0, 5, -30);
    x.put(1, 6, 20);
    x.put(2, 7, 70);
    int[][] due = {{-10, -30, 20, 2}, {90, 20, 70, 2}, {70, 70, 70, 1}, {-30, -30, -30, 1}};
    for (int how = 0; how < 4; how++) {
      is("23 first label 0, how " + how, x.over(false, 0, how, 0), due[0][how]);
      is("23 second label 0, how " + how, x.over(true, 0, how, 0), due[1][how]);
      is("23 first label 9, how " + how, x.over(false, 9, how, 0), due[2][how]);
      is("23 second label 9, how " + how, x.over(true, 9, how, 0), due[3][how]);
      int none = how == 3 ? 0 : NOTHING;
      is("23 a label of none, how " + how, x.over(false, 5, how, 0), none);
      is("23 a window without items, how " + how, x.over(false, 0, how, 1), none);
    }
    MeridianSeries y = new MeridianSeries();
    y.goOn(1);
    is("23 without series, how many", y.over(false, 0, 3, 0), 0);
    is("23 without series, the least", y.over(true, 0, 1, 0), NOTHING);
  }

  /** "those that tell NOTHING left out": the first one, the last one; but not what FILL tells. */
  private static void overWhatTellsNothing() {
    MeridianSeries x = new MeridianSeries();
    for (int i = 0; i < 3; i++) {
      x.addSeries(4, 4);
    }
    x.goOn(50);
    x.put(1, 5, 12);
    x.put(2, 25, 8);
    int[][] due = {{12, 12, 12, 1}, {12, 0, 12, 3}, {12, 12, 12, 1}, {12, 12, 12, 1}};
    int[][] dueLater = {{8, 8, 8, 1}, {8, 0, 8, 3}, {20, 8, 12, 2}, {8, 8, 8, 1}};
    for (int fill = 0; fill < 4; fill++) {
      x.setQuery(0, 10, LAST, fill);
      for (int how = 0; how < 4; how++) {
        is("23 FILL " + fill + ", how " + how, x.over(true, 4, how, 0), due[fill][how]);
        is("23 later, FILL " + fill + ", how " + how, x.over(true, 4, how, 2), dueLater[fill][how]);
      }
    }
    x.setQuery(0, 10, COUNT, 0);
    is("23 a COUNT of 0 is a number: how many", x.over(true, 4, 3, 0), 3);
    is("23 a COUNT of 0 is the least", x.over(true, 4, 1, 0), 0);
  }

  private static void overAllSix() {
    MeridianSeries x = fullStore();
    x.setQuery(160, 286, FIRST, 0);
    for (int label = 0; label < 6; label++) {
      is("23 each by its first label", x.over(false, label, 0, 0), 80 + label);
      is("23 each by its second label", x.over(true, 9 - label, 2, 0), 80 + label);
    }
    MeridianSeries y = new MeridianSeries();
    for (int i = 0; i < 6; i++) {
      y.addSeries(7, 7);
    }
    for (int i = 0; i < 6; i++) {
      y.put(i, 0, i * i);
    }
    is("23 six: the sum", y.over(false, 7, 0, 0), 55);
    is("23 six: how many", y.over(false, 7, 3, 0), 6);
    is("23 six: the greatest one", y.over(true, 7, 2, 0), 25);
  }

  /** "how many WINDOWS of the QUERY are looked at, from 0 on": 1 to 100. */
  private static void gapsEdge() {
    MeridianSeries x = storeAt(1100);
    is("24 without items all are", x.gaps(0, 100), 100);
    is("24 without items the one is", x.gaps(0, 1), 1);
    x.put(0, 999, 1);
    is("24 the hundredth one is none", x.gaps(0, 100), 99);
    is("24 it is not looked at", x.gaps(0, 99), 99);
    x.put(0, 1000, 1);
    is("24 behind the hundredth one", x.gaps(0, 100), 99);
    x.put(0, 0, 1);
    is("24 the first one is none", x.gaps(0, 1), 0);
    is("24 the first of two", x.gaps(0, 2), 1);
    x.put(0, 9, 1);
    is("24 two items in one", x.gaps(0, 2), 1);
    x.put(0, 10, 1);
    is("24 one item in each", x.gaps(0, 2), 0);
    for (int fill = 0; fill < 4; fill++) {
      x.setQuery(10, 1, COUNT, fill);
      is("24 by the query, whatever FILL is", x.gaps(0, 2), 1);
    }
    x.setQuery(99999, 10000, SUM, 0);
    is("24 behind all times", x.gaps(0, 100), 100);
    x.setQuery(0, 1001, SUM, 0);
    is("24 all in one", x.gaps(0, 100), 99);
  }

  private static void gapsOfBuckets() {
    MeridianSeries x = storeOfAllKinds();
    is("24 0, 60, 70 and 80 are none", x.gaps(0, 10), 6);
    x.setQuery(50, 10, SUM, 0);
    is("24 50 is one, as the bucket starts at 0", x.gaps(0, 4), 1);
  }

  /** "the time of the last ITEM whose time is not above that; -1 without one" */
  private static void lastAtEdge() {
    MeridianSeries x = storeAt(100);
    is("25 without items", x.lastAt(0, 0), -1);
    is("25 without items", x.lastAt(0, 99999), -1);
    x.put(0, 40, 1);
    is("25 one below it", x.lastAt(0, 39), -1);
    is("25 at it", x.lastAt(0, 40), 40);
    is("25 one above it", x.lastAt(0, 41), 40);
    x.put(0, 42, 1);
    is("25 between", x.lastAt(0, 41), 40);
    is("25 at the next one", x.lastAt(0, 42), 42);
    is("25 far above", x.lastAt(0, 99999), 42);
    x.put(0, 0, 1);
    is("25 time 0", x.lastAt(0, 0), 0);
    is("25 above NOW", x.lastAt(0, 101), 42);
  }

  private static void lastAtBuckets() {
    MeridianSeries x = storeOfAllKinds();
    int[] times = {0, 59, 60, 69, 70, 71, 79, 80, 99999};
    int[] due = {0, 0, 60, 60, 70, 71, 71, 80, 80};
    for (int i = 0; i < times.length; i++) {
      is("25 at " + times[i], x.lastAt(0, times[i]), due[i]);
    }
    MeridianSeries y = fullStore();
    for (int i = 0; i < 24; i++) {
      is("25 coarse " + i, y.lastAt(0, 19 + i * 4), 16 + i * 4);
      is("25 fine " + i, y.lastAt(0, 113 + i * 2), 112 + i * 2);
    }
    is("25 below the first coarse one", y.lastAt(0, 15), -1);
    is("25 the last one", y.lastAt(0, 500), 444);
  }

  private static void emptySeries() {
    MeridianSeries x = storeAt(0);
    for (int what = 0; what < 8; what++) {
      for (int fill = 0; fill < 4; fill++) {
        int due = what == COUNT || fill == 1 ? 0 : NOTHING;
        is("22 an empty series, told " + what + ", FILL " + fill, asked(x, 0, 1, what, fill), due);
      }
    }
  }
}
