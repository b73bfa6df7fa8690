/** Each promise of the document by examples: ordinary inputs, the edges, wrong inputs. */
public final class PromiseTest extends Check {
  public static void main(String[] args) {
    newObject();
    addSeries();
    setSpan();
    setWidths();
    setKeep();
    setQuery();
    put();
    putRow();
    goOn();
    numbersOfTheStore();
    blocksAndPoints();
    bits();
    bitWidths();
    word();
    rollingUpBlocks();
    rollingUpFineBuckets();
    fullRows();
    ofBucket();
    ratio();
    tells();
    fills();
    ask();
    over();
    gaps();
    lastAt();
    addRule();
    ruleThatFires();
    ruleThatStirs();
    ruleOverSums();
    eventsKept();
    bitsWith();
    firesIn();
    wouldRoll();
    endOfTime();
    digest();
    end("promises");
  }

  private static void newObject() {
    MeridianSeries x = new MeridianSeries();
    is("1 now", x.now(), 0);
    is("1 series", x.series(), 0);
    is("1 late", x.late(), 0);
    is("1 events", x.events(), 0);
    is("1 ratio", x.ratio(), 0);
    refuses(x, "1 blocks", INDEX, z -> z.blocks(0));
    refuses(x, "1 stateOf", INDEX, z -> z.stateOf(0));
    MeridianSeries y = storeAt(0);
    is("1 blocks of a new series", y.blocks(0), 1);
    is("1 fine buckets", y.buckets(0, false), 0);
    is("1 coarse buckets", y.buckets(0, true), 0);
    is("1 a point at NOW 0", y.put(0, 0, 5), 1);
    is("1 WHAT is SUM, STEP 10, the beginning 0", y.ask(0, 0), 5);
    is("1 FILL is NOTHING", y.ask(0, 1), NOTHING);
  }

  private static void addSeries() {
    MeridianSeries x = new MeridianSeries();
    refuses(x, "2 one -1", ARGUMENT, z -> z.addSeries(-1, 0));
    refuses(x, "2 one 10", ARGUMENT, z -> z.addSeries(10, 0));
    refuses(x, "2 other -1", ARGUMENT, z -> z.addSeries(0, -1));
    refuses(x, "2 other 10", ARGUMENT, z -> z.addSeries(0, 10));
    for (int i = 0; i < 6; i++) {
      is("2 number", x.addSeries(i == 0 ? 0 : 9, i == 0 ? 9 : 0), i);
      is("2 series", x.series(), i + 1);
    }
    refuses(x, "2 a seventh", STATE, z -> z.addSeries(0, 0));
    refuses(x, "2 the argument is named first", ARGUMENT, z -> z.addSeries(0, 10));
  }

  private static void setSpan() {
    MeridianSeries x = storeAt(100);
    refuses(x, "3 span 1", ARGUMENT, z -> z.setSpan(1));
    refuses(x, "3 span 17", ARGUMENT, z -> z.setSpan(17));
    is("3 the span before", x.setSpan(16), 8);
    is("3 15 points", x.putRow(0, 0, 0, 2, 1, 15), 15);
    is("3 are open", x.size(0, 0), 15);
    is("3 a smaller span", x.setSpan(2), 16);
    is("3 seals nothing by itself", x.blocks(0), 1);
    is("3 seals all as a point is put instead of another one", x.put(0, 4, 77), 0);
    is("3 blocks", x.blocks(0), 2);
    is("3 size", x.size(0, 0), 15);
    is("3 the value put instead", x.point(0, 0, 2, true), 77);
    is("3 one of 2", x.put(0, 30, 1), 1);
    is("3 two of 2", x.put(0, 31, 1), 0);
    is("3 the span before that", x.setSpan(3), 2);
  }

  private static void setWidths() {
    MeridianSeries x = storeAt(100);
    refuses(x, "4 width 1", ARGUMENT, z -> z.setWidths(1, 6));
    refuses(x, "4 width 101", ARGUMENT, z -> z.setWidths(101, 6));
    refuses(x, "4 fold 1", ARGUMENT, z -> z.setWidths(10, 1));
    refuses(x, "4 fold 21", ARGUMENT, z -> z.setWidths(10, 21));
    is("4 the width before", x.setWidths(100, 20), 10);
    is("4 the width before that", x.setWidths(2, 2), 100);
    x.setSpan(2);
    x.putRow(0, 1, 5, 2, 0, 2);
    is("4 with a sealed block alone", x.setWidths(5, 3), 2);
    x.setKeep(1, 0);
    x.goOn(1);
    is("4 a bucket", x.buckets(0, false), 1);
    is("4 its start is a multiple of the width", x.ofBucket(0, false, 0, 0), 0);
    refuses(x, "4 with a bucket", STATE, z -> z.setWidths(5, 3));
    refuses(x, "4 the argument is named first", ARGUMENT, z -> z.setWidths(1, 3));
    x.setKeep(1, 1);
    x.goOn(1);
    is("4 no fine bucket", x.buckets(0, false), 0);
    refuses(x, "4 with a coarse bucket", STATE, z -> z.setWidths(5, 3));
  }

  private static void setKeep() {
    MeridianSeries x = storeAt(10);
    refuses(x, "5 keep -1", ARGUMENT, z -> z.setKeep(-1, 0));
    refuses(x, "5 keep 10001", ARGUMENT, z -> z.setKeep(10001, 0));
    refuses(x, "5 longKeep -1", ARGUMENT, z -> z.setKeep(0, -1));
    refuses(x, "5 longKeep 10001", ARGUMENT, z -> z.setKeep(0, 10001));
    is("5 keep before", x.setKeep(10000, 10000), 0);
    is("5 keep before that", x.setKeep(0, 7), 10000);
  }

  private static void setQuery() {
    MeridianSeries x = storeAt(100);
    refuses(x, "6 from -1", ARGUMENT, z -> z.setQuery(-1, 1, 0, 0));
    refuses(x, "6 from 100000", ARGUMENT, z -> z.setQuery(100000, 1, 0, 0));
    refuses(x, "6 step 0", ARGUMENT, z -> z.setQuery(0, 0, 0, 0));
    refuses(x, "6 step 10001", ARGUMENT, z -> z.setQuery(0, 10001, 0, 0));
    refuses(x, "6 what -1", ARGUMENT, z -> z.setQuery(0, 1, -1, 0));
    refuses(x, "6 what 8", ARGUMENT, z -> z.setQuery(0, 1, 8, 0));
    refuses(x, "6 fill -1", ARGUMENT, z -> z.setQuery(0, 1, 0, -1));
    refuses(x, "6 fill 4", ARGUMENT, z -> z.setQuery(0, 1, 0, 4));
    is("6 step before", x.setQuery(99999, 10000, 7, 3), 10);
    is("6 step before that", x.setQuery(20, 5, 0, 0), 10000);
    x.putRow(0, 20, 1, 1, 0, 7);
    is("6 window 0 begins at 20", x.ask(0, 0), 5);
    is("6 window 1 at 25", x.ask(0, 1), 2);
    is("6 step before that", x.setQuery(0, 1, 0, 0), 5);
    is("6 the shortest step", x.ask(0, 26), 1);
  }

  private static void put() {
    MeridianSeries x = storeAt(50);
    refuses(x, "7 series -1", INDEX, z -> z.put(-1, 0, 0));
    refuses(x, "7 series 1", INDEX, z -> z.put(1, 0, 0));
    refuses(x, "7 the series is named first", INDEX, z -> z.put(1, -1, 0));
    refuses(x, "7 time -1", ARGUMENT, z -> z.put(0, -1, 0));
    refuses(x, "7 time above NOW", ARGUMENT, z -> z.put(0, 51, 0));
    refuses(x, "7 value too small", ARGUMENT, z -> z.put(0, 0, -100001));
    refuses(x, "7 value too great", ARGUMENT, z -> z.put(0, 0, 100001));
    x.setSpan(4);
    is("7 at NOW", x.put(0, 50, 100000), 1);
    is("7 ahead of it", x.put(0, 10, -100000), 2);
    is("7 instead", x.put(0, 10, 3), 2);
    is("7 between", x.put(0, 30, 4), 3);
    int[] times = {10, 30, 50};
    int[] values = {3, 4, 100000};
    for (int i = 0; i < 3; i++) {
      is("7 time in its place", x.point(0, 0, i, false), times[i]);
      is("7 value in its place", x.point(0, 0, i, true), values[i]);
    }
    is("7 the fourth seals", x.put(0, 20, 5), 0);
    is("7 late at the greatest sealed time", x.put(0, 50, 6), -1);
    is("7 late below it", x.put(0, 0, 6), -1);
    is("7 late is counted", x.late(), 2);
    is("7 LONG KEEP is 0 at first", keptFine(), 1);
    is("7 nothing of it is stored", x.items(0), 4);
    x.goOn(1);
    is("7 above the greatest sealed time", x.put(0, 51, 6), 1);
    x.setKeep(1, 0);
    x.goOn(1);
    is("7 the block is rolled up", x.blocks(0), 1);
    is("7 late still", x.put(0, 50, 6), -1);
    is("7 not late", x.put(0, 51, 7), 1);
  }

  /** Fine buckets of a store where setKeep was not called; the first block went by the ninth one. */
  private static int keptFine() {
    MeridianSeries x = storeAt(100);
    x.setSpan(2);
    x.putRow(0, 0, 0, 1, 0, 18);
    x.goOn(100);
    return x.buckets(0, false);
  }

  private static void putRow() {
    MeridianSeries x = storeAt(2000);
    refuses(x, "8 series", INDEX, z -> z.putRow(1, 0, 0, 0, 0, 0));
    refuses(x, "8 count 0", ARGUMENT, z -> z.putRow(0, 5, 0, 1, 0, 0));
    refuses(x, "8 count 31", ARGUMENT, z -> z.putRow(0, 0, 0, 1, 0, 31));
    refuses(x, "8 every 0", ARGUMENT, z -> z.putRow(0, 0, 0, 0, 0, 2));
    refuses(x, "8 every 1001", ARGUMENT, z -> z.putRow(0, 0, 0, 1001, 0, 2));
    refuses(x, "8 time -1", ARGUMENT, z -> z.putRow(0, -1, 0, 1, 0, 3));
    refuses(x, "8 last time above NOW", ARGUMENT, z -> z.putRow(0, 1001, 0, 1000, 0, 2));
    refuses(x, "8 first time far off", ARGUMENT, z -> z.putRow(0, Integer.MAX_VALUE, 0, 1, 0, 30));
    refuses(x, "8 first value", ARGUMENT, z -> z.putRow(0, 0, -100001, 1, 1, 2));
    refuses(x, "8 last value", ARGUMENT, z -> z.putRow(0, 0, 99999, 1, 1, 3));
    refuses(x, "8 values that wrap around", ARGUMENT, z -> z.putRow(0, 0, 0, 1, 1 << 30, 5));
    is("8 one point, more is free", x.putRow(0, 0, 7, 1000, Integer.MAX_VALUE, 1), 1);
    is("8 two points up to NOW", x.putRow(0, 1000, -100000, 1000, 200000, 2), 2);
    is("8 time of the last", x.point(0, 0, 2, false), 2000);
    is("8 value of the last", x.point(0, 0, 2, true), 100000);
    is("8 thirty, the ones up to 2000 late", storeWithLateRow().late(), 9);
    MeridianSeries y = storeAt(100);
    is("8 a row that seals, and goes on", y.putRow(0, 1, 1, 3, 2, 30), 30);
    is("8 blocks", y.blocks(0), 4);
    is("8 open", y.size(0, 3), 6);
    is("8 time", y.point(0, 3, 5, false), 88);
    is("8 value", y.point(0, 3, 5, true), 59);
  }

  private static MeridianSeries storeWithLateRow() {
    MeridianSeries x = storeAt(100);
    x.putRow(0, 11, 0, 1, 0, 8);
    is("8 how many were not late", x.putRow(0, 2, 0, 2, 0, 30), 21);
    return x;
  }

  private static void goOn() {
    MeridianSeries x = storeAt(0);
    refuses(x, "9 by 0", ARGUMENT, z -> z.goOn(0));
    refuses(x, "9 by -1", ARGUMENT, z -> z.goOn(-1));
    refuses(x, "9 by 101", ARGUMENT, z -> z.goOn(101));
    is("9 no events", x.goOn(100), 0);
    is("9 now", x.now(), 100);
    x.put(0, 100, 5);
    x.addRule(0, 0, 3, 1, true, 0, 1);
    is("9 fires at 101, calm at 104", x.goOn(10), 2);
    is("9 events", x.events(), 2);
    is("9 none more", x.goOn(10), 0);
  }

  private static void numbersOfTheStore() {
    MeridianSeries x = storeAt(30);
    is("10 now", x.now(), 30);
    x.goOn(1);
    is("10 now", x.now(), 31);
    is("11 series", x.series(), 1);
    x.addSeries(0, 0);
    is("11 series", x.series(), 2);
    x.setSpan(2);
    x.putRow(0, 10, 0, 1, 0, 2);
    is("12 late", x.late(), 0);
    x.putRow(0, 5, 0, 1, 0, 8);
    is("12 late in a row", x.late(), 7);
    is("12 bitsWith counts none", x.bitsWith(0, 11, 0), -1);
    is("12 late", x.late(), 7);
    is("12 other series have their own times", x.put(1, 0, 0), 1);
  }

  private static void blocksAndPoints() {
    MeridianSeries x = storeAt(100);
    x.setSpan(3);
    x.putRow(0, 10, -5, 5, 10, 7);
    for (int bad : new int[] {-1, 1, Integer.MIN_VALUE, Integer.MAX_VALUE}) {
      refuses(x, "13 series", INDEX, z -> z.blocks(bad));
      refuses(x, "14 series", INDEX, z -> z.size(bad, 0));
      refuses(x, "15 series", INDEX, z -> z.point(bad, 0, 0, true));
      refuses(x, "16 series", INDEX, z -> z.bits(bad, 0));
      refuses(x, "17 series", INDEX, z -> z.word(bad, 0, 0));
      refuses(x, "18 series", INDEX, z -> z.buckets(bad, true));
      refuses(x, "20 series", INDEX, z -> z.items(bad));
    }
    is("13 blocks", x.blocks(0), 3);
    refuses(x, "14 block -1", INDEX, z -> z.size(0, -1));
    refuses(x, "14 block 3", INDEX, z -> z.size(0, 3));
    is("14 size of a sealed one", x.size(0, 0), 3);
    is("14 size of a sealed one", x.size(0, 1), 3);
    is("14 size of the open one", x.size(0, 2), 1);
    refuses(x, "15 block -1", INDEX, z -> z.point(0, -1, 0, true));
    refuses(x, "15 block 3", INDEX, z -> z.point(0, 3, 0, true));
    refuses(x, "15 point -1", INDEX, z -> z.point(0, 1, -1, true));
    refuses(x, "15 point 3", INDEX, z -> z.point(0, 1, 3, true));
    refuses(x, "15 point 1 of the open one", INDEX, z -> z.point(0, 2, 1, false));
    is("15 time", x.point(0, 1, 0, false), 25);
    is("15 value", x.point(0, 1, 0, true), 25);
    is("15 time of the open one", x.point(0, 2, 0, false), 40);
    is("15 value of the open one", x.point(0, 2, 0, true), 55);
    is("20 items", x.items(0), 7);
    MeridianSeries y = storeAt(5);
    is("14 an open one without points", y.size(0, 0), 0);
    refuses(y, "15 no point there", INDEX, z -> z.point(0, 0, 0, true));
  }

  private static void bits() {
    MeridianSeries x = storeAt(100);
    x.setSpan(2);
    is("16 open", x.bits(0, 0), 0);
    x.putRow(0, 10, 5, 1, 0, 2);
    x.put(0, 12, 0);
    refuses(x, "16 block -1", INDEX, z -> z.bits(0, -1));
    refuses(x, "16 block 2", INDEX, z -> z.bits(0, 2));
    is("16 6 + 20 + 21, E 1 in 2 + 6, F 0 in 1", x.bits(0, 0), 56);
    is("16 open", x.bits(0, 1), 0);
    MeridianSeries y = storeAt(100);
    y.setSpan(3);
    y.putRow(0, 0, 5, 7, 3, 3);
    is("16 E 7, then 0; F 3 twice", y.bits(0, 0), 47 + 8 + 7 + 1 + 7);
  }

  /** Bits of a sealed block of three points: times 0, d, d + d + e, values 0, 0, f. */
  private static int bitsOfThree(int d, int e, int f) {
    MeridianSeries x = storeAt(2000);
    x.setSpan(3);
    x.put(0, 0, 0);
    x.put(0, d, 0);
    x.put(0, d + d + e, f);
    return x.bits(0, 0);
  }

  private static void bitWidths() {
    int first = 47 + 12 + 1;
    int[][] times = {
      {0, 1}, {1, 8}, {-1, 8}, {-31, 8}, {32, 8}, {-32, 12}, {33, 12}, {-255, 12}, {256, 12},
      {257, 24}, {1000, 24}
    };
    for (int[] one : times) {
      is("16 time more " + one[0], bitsOfThree(256, one[0], 0), first + one[1] + 1);
    }
    is("16 time more -256", bitsOfThree(257, -256, 0), 47 + 24 + 1 + 24 + 1);
    int[][] values = {
      {0, 1}, {1, 7}, {-1, 7}, {-15, 7}, {16, 7}, {-16, 13}, {17, 13}, {-511, 13}, {512, 13},
      {-512, 22}, {513, 22}, {100000, 22}, {-100000, 22}
    };
    for (int[] one : values) {
      is("16 value more " + one[0], bitsOfThree(100, 0, one[0]), first + 1 + one[1]);
    }
  }

  private static void word() {
    MeridianSeries x = storeAt(100);
    x.setSpan(2);
    x.putRow(0, 10, 5, 1, 2, 2);
    // 000010 00000000000000001010 100000000000000000101 10 100000 10 10001
    String bits = "000010" + "00000000000000001010" + "100000000000000000101" + "10100000" + "1010001";
    is("17 bits", x.bits(0, 0), bits.length());
    String padded = bits + "00";
    for (int i = 0; i < 4; i++) {
      is("17 word", x.word(0, 0, i), Integer.parseInt(padded.substring(i * 16, i * 16 + 16), 2));
    }
    refuses(x, "17 word -1", INDEX, z -> z.word(0, 0, -1));
    refuses(x, "17 word 4", INDEX, z -> z.word(0, 0, 4));
    refuses(x, "17 an open one has none", INDEX, z -> z.word(0, 1, 0));
    refuses(x, "17 block 2", INDEX, z -> z.word(0, 2, 0));
    refuses(x, "17 block -1", INDEX, z -> z.word(0, -1, 0));
    wordsOfAllCodes();
    longestBlock();
  }

  private static String bitsOf(int number, int width) {
    StringBuilder text = new StringBuilder();
    for (int i = width - 1; i >= 0; i--) {
      text.append((number >> i) % 2 == 0 ? '0' : '1');
    }
    return text.toString();
  }

  /** The words of a block that has each code, for times and for values, up and down. */
  private static void wordsOfAllCodes() {
    MeridianSeries x = storeAt(5000);
    x.setSpan(9);
    int[] times = {7, 17, 27, 127, 1127, 1128, 1158, 1159, 1360};
    int[] values = {-3, -3, 0, -200, 99000, 0, 500, 490, 490};
    for (int i = 0; i < times.length; i++) {
      x.put(0, times[i], values[i]);
    }
    String bits = bitsOf(9, 6) + bitsOf(7, 20) + bitsOf(1048573, 21)
        + "10" + bitsOf(10 + 31, 6) + "0"
        + "0" + "10" + bitsOf(3 + 15, 5)
        + "110" + bitsOf(90 + 255, 9) + "110" + bitsOf(-200 + 511, 10)
        + "111" + bitsOf(900 + 1048576, 21) + "111" + bitsOf(99200 + 262144, 19)
        + "111" + bitsOf(-999 + 1048576, 21) + "111" + bitsOf(-99000 + 262144, 19)
        + "10" + bitsOf(29 + 31, 6) + "110" + bitsOf(500 + 511, 10)
        + "10" + bitsOf(-29 + 31, 6) + "10" + bitsOf(-10 + 15, 5)
        + "110" + bitsOf(200 + 255, 9) + "0";
    is("17 bits of all codes", x.bits(0, 0), bits.length());
    String padded = bits + "0".repeat((16 - bits.length() % 16) % 16);
    for (int i = 0; i < padded.length() / 16; i++) {
      is("17 word " + i + " of all codes", x.word(0, 0, i), Integer.parseInt(padded.substring(i * 16, i * 16 + 16), 2));
    }
    is("17 nothing of it is in the next block's word", firstWordOfSecondBlock(x), (2 << 10) + 1);
  }

  private static int firstWordOfSecondBlock(MeridianSeries x) {
    x.setSpan(2);
    x.putRow(0, 2000, 0, 1, 0, 2);
    return x.word(0, 1, 0);
  }

  private static void longestBlock() {
    MeridianSeries x = storeAt(9000);
    x.setSpan(16);
    int time = 0;
    for (int i = 0; i < 16; i++) {
      x.put(0, time, i % 2 == 0 ? 100000 : -100000);
      time += i % 2 == 0 ? 700 : 1;
    }
    is("16 a block of the most bits", x.bits(0, 0), 47 + 15 * 46);
    is("17 its last word", x.word(0, 0, 46), (112144 & 1) << 15);
    refuses(x, "17 behind its last word", INDEX, z -> z.word(0, 0, 47));
    long sum = 0;
    for (int i = 0; i < 47; i++) {
      sum += x.word(0, 0, i);
    }
    is("17 words are not negative", sum > 0 ? 1 : 0, 1);
  }

  private static void rollingUpBlocks() {
    MeridianSeries x = storeAt(40);
    x.setSpan(4);
    x.putRow(0, 5, 10, 3, -7, 4);
    x.setKeep(26, 0);
    is("3 nothing is rolled up as KEEP is set", x.blocks(0), 2);
    is("33 would be rolled up at 41 with KEEP 26", x.wouldRoll(26), 1);
    MeridianSeries y = storeAt(39);
    y.setSpan(4);
    y.putRow(0, 5, 10, 3, -7, 4);
    y.setKeep(26, 0);
    y.goOn(1);
    is("3 last time 14 is not below 40 - 26", y.blocks(0), 2);
    y.goOn(1);
    is("3 it is below 41 - 26", y.blocks(0), 1);
    is("18 fine", y.buckets(0, false), 2);
    is("18 coarse", y.buckets(0, true), 0);
    int[][] due = {{0, 2, 13, 3, 10, 10, 3}, {10, 2, -15, -11, -4, -4, -11}};
    for (int bucket = 0; bucket < 2; bucket++) {
      for (int what = 0; what < 7; what++) {
        is("19 number " + what, y.ofBucket(0, false, bucket, what), due[bucket][what]);
      }
    }
    is("20 items are buckets now", y.items(0), 2);
    y.putRow(0, 15, 100, 1, 0, 4);
    y.goOn(30);
    is("3 into the last bucket, as it has this start", y.buckets(0, false), 2);
    is("3 count", y.ofBucket(0, false, 1, 1), 6);
    is("3 first", y.ofBucket(0, false, 1, 5), -4);
    is("3 last", y.ofBucket(0, false, 1, 6), 100);
    openBlocksStay();
    blocksOfManySizes();
  }

  private static void blocksOfManySizes() {
    MeridianSeries x = storeAt(100);
    for (int size = 2; size < 6; size++) {
      x.setSpan(size);
      x.putRow(0, size * 10, size, 1, 1, size);
    }
    x.setKeep(70, 0);
    x.goOn(1);
    for (int block = 0; block < 3; block++) {
      is("14 size, the first block gone", x.size(0, block), block + 3);
      is("15 time, the first block gone", x.point(0, block, 2, false), block * 10 + 32);
      is("15 value, the first block gone", x.point(0, block, 2, true), block + 5);
    }
    is("14 the open block", x.size(0, 3), 0);
  }

  private static void openBlocksStay() {
    MeridianSeries x = storeAt(50);
    x.putRow(0, 0, 1, 1, 0, 12);
    x.setKeep(1, 0);
    x.goOn(10);
    is("3 the open block is not rolled up", x.size(0, 0), 4);
    is("3 what is open is still to be changed", x.put(0, 8, 9), 4);
    is("3 but not what is rolled up", x.put(0, 7, 9), -1);
  }

  private static void rollingUpFineBuckets() {
    MeridianSeries y = storeAt(100);
    y.setSpan(2);
    y.setWidths(10, 2);
    y.putRow(0, 21, 4, 10, 2, 4);
    y.setKeep(1, 60);
    y.goOn(1);
    is("3 starts 20 and 30 end by 101 - 60", y.buckets(0, false), 2);
    is("3 into one coarse bucket", y.buckets(0, true), 1);
    int[] due = {20, 2, 10, 4, 6, 4, 6};
    for (int what = 0; what < 7; what++) {
      is("19 coarse number " + what, y.ofBucket(0, true, 0, what), due[what]);
    }
    y.goOn(8);
    is("3 start 40 + 10 is above 109 - 60", y.buckets(0, false), 2);
    y.goOn(1);
    is("3 start 40 + 10 is not above 110 - 60", y.buckets(0, false), 1);
    is("3 another coarse bucket", y.ofBucket(0, true, 1, 0), 40);
    is("3 LONG KEEP 0 is for ever", foreverFine().buckets(0, false), 4);
    is("3 FOLD is 6 at first", startOfCoarse(119), 60);
    is("3 FOLD is 6 at first", startOfCoarse(121), 120);
  }

  private static int startOfCoarse(int time) {
    MeridianSeries x = storeAt(200);
    x.setSpan(2);
    x.put(0, time - 1, 5);
    x.put(0, time, 6);
    x.setKeep(1, 1);
    x.goOn(1);
    return x.ofBucket(0, true, 0, 0);
  }

  private static MeridianSeries foreverFine() {
    MeridianSeries x = storeAt(100);
    x.setSpan(2);
    x.putRow(0, 21, 4, 10, 2, 4);
    x.setKeep(1, 0);
    x.goOn(100);
    return x;
  }

  private static void fullRows() {
    MeridianSeries x = storeAt(100);
    x.setSpan(2);
    x.putRow(0, 0, 1, 1, 0, 16);
    is("3 eight sealed blocks stay", x.blocks(0), 9);
    x.putRow(0, 16, 1, 1, 0, 2);
    is("3 with the ninth the first one is rolled up", x.blocks(0), 9);
    is("3 and no other", x.ofBucket(0, false, 0, 1), 2);
    is("3 the first block now", x.point(0, 0, 0, false), 2);

    MeridianSeries y = storeAt(900);
    y.setSpan(2);
    y.setWidths(2, 2);
    y.setKeep(1, 0);
    y.putRow(0, 0, 7, 2, 0, 16);
    y.goOn(1);
    y.putRow(0, 32, 7, 2, 0, 8);
    y.goOn(1);
    is("3 24 fine buckets stay", y.buckets(0, false), 24);
    is("3 none is coarse", y.buckets(0, true), 0);
    y.putRow(0, 48, 7, 2, 0, 2);
    y.goOn(1);
    is("3 the 25th and 26th roll up the first two", y.buckets(0, false), 24);
    is("3 they are coarse", y.buckets(0, true), 1);
    is("3 the first fine one", y.ofBucket(0, false, 0, 0), 4);
    fullCoarseRow(y);
  }

  private static void fullCoarseRow(MeridianSeries y) {
    for (int i = 0; i < 6; i++) {
      y.putRow(0, 52 + i * 32, 7, 2, 0, 16);
      y.goOn(1);
    }
    is("3 24 coarse buckets at most", y.buckets(0, true), 24);
    is("3 the first of them is gone", y.ofBucket(0, true, 0, 0), 100);
    is("3 the last fine one", y.ofBucket(0, false, 23, 0), 242);
    is("22 what is gone is in no window", y.ask(0, 9), NOTHING);
    is("22 from the first one on", y.ask(0, 10), 42);
  }

  private static void ofBucket() {
    MeridianSeries x = foreverFine();
    refuses(x, "19 series -1", INDEX, z -> z.ofBucket(-1, false, 0, 0));
    refuses(x, "19 series 1", INDEX, z -> z.ofBucket(1, false, 0, 0));
    refuses(x, "19 bucket -1", INDEX, z -> z.ofBucket(0, false, -1, 0));
    refuses(x, "19 bucket 4", INDEX, z -> z.ofBucket(0, false, 4, 0));
    refuses(x, "19 no coarse one", INDEX, z -> z.ofBucket(0, true, 0, 0));
    refuses(x, "19 the bucket is named first", INDEX, z -> z.ofBucket(0, false, 4, 7));
    refuses(x, "19 what -1", ARGUMENT, z -> z.ofBucket(0, false, 0, -1));
    refuses(x, "19 what 7", ARGUMENT, z -> z.ofBucket(0, false, 0, 7));
    is("19 start of the last", x.ofBucket(0, false, 3, 0), 50);
    is("19 its value", x.ofBucket(0, false, 3, 6), 10);
  }

  private static void ratio() {
    MeridianSeries x = storeAt(100);
    x.addSeries(0, 0);
    x.setSpan(2);
    x.put(0, 0, 0);
    is("21 open blocks are not counted", x.ratio(), 0);
    x.put(0, 1, 0);
    is("21 one block", x.ratio(), 56 / 128.0);
    x.putRow(1, 3, 0, 1, 1, 3);
    is("21 two blocks", x.ratio(), (56 + 62) / 256.0);
    x.setSpan(3);
    x.putRow(1, 6, 0, 1, 1, 2);
    is("21 three blocks, divided once", x.ratio(), (56 + 62 + 47 + 8 + 7 + 1 + 7) / (64.0 * 7));
    x.setKeep(1, 0);
    x.goOn(1);
    is("21 none left", x.ratio(), 0);
  }

  private static void tells() {
    MeridianSeries x = storeAt(100);
    int[] values = {5, -9, 30, 2};
    for (int i = 0; i < 4; i++) {
      x.put(0, 20 + i * 3, values[i]);
    }
    int[] due = {4, 28, -9, 30, 5, 2, 7, 39};
    int[] dueOfThree = {3, 26, -9, 30, 5, 30, 8, 39};
    for (int what = 0; what < 8; what++) {
      x.setQuery(20, 10, what, 0);
      is("22 told " + what, x.ask(0, 0), due[what]);
      x.setQuery(20, 9, what, 0);
      is("22 without the end, told " + what, x.ask(0, 0), dueOfThree[what]);
    }
    x.put(0, 29, -91);
    x.setQuery(20, 10, 6, 0);
    is("22 a mean, -65 / 4, is cut towards 0", x.ask(0, 0), -16);
    bucketsInWindows();
  }

  private static void bucketsInWindows() {
    MeridianSeries x = storeAt(100);
    x.setSpan(4);
    x.putRow(0, 17, 10, 2, -3, 4);
    x.setKeep(1, 0);
    x.goOn(1);
    x.put(0, 25, 50);
    int[] due = {3, 55, 1, 50, 4, 50, 18, 49};
    for (int what = 0; what < 8; what++) {
      x.setQuery(20, 10, what, 0);
      is("22 a bucket and a point, told " + what, x.ask(0, 0), due[what]);
    }
    x.setQuery(11, 10, 0, 0);
    is("22 a bucket is in a window by its start", x.ask(0, 0), 2);
    x.setQuery(20, 5, 0, 0);
    is("22 with all that is in it", x.ask(0, 0), 2);
  }

  private static void fills() {
    MeridianSeries x = storeAt(100);
    x.put(0, 14, 10);
    x.put(0, 51, -11);
    for (int fill = 0; fill < 4; fill++) {
      x.setQuery(0, 10, 0, fill);
      is("22 the count of a gap, fill " + fill, x.ask(0, 3), 0);
    }
    x.setQuery(0, 10, 3, 0);
    is("22 fill 0", x.ask(0, 3), NOTHING);
    x.setQuery(0, 10, 3, 1);
    is("22 fill 1", x.ask(0, 3), 0);
    is("22 fill 1 with nothing ahead", x.ask(0, 0), 0);
    x.setQuery(0, 10, 3, 2);
    is("22 fill 2", x.ask(0, 3), 10);
    is("22 fill 2 with nothing ahead", x.ask(0, 0), NOTHING);
    is("22 fill 2 with nothing behind", x.ask(0, 9), -11);
    x.setQuery(0, 10, 3, 3);
    is("22 fill 3: 10 + -21 * 6 / 37", x.ask(0, 2), 7);
    is("22 fill 3: 10 + -21 * 26 / 37", x.ask(0, 4), -4);
    is("22 fill 3 with nothing ahead", x.ask(0, 0), NOTHING);
    is("22 fill 3 with nothing behind", x.ask(0, 6), NOTHING);
    is("22 no gap is filled", x.ask(0, 1), 10);
    longLine();
    bucketsOnLine();
  }

  private static void longLine() {
    MeridianSeries x = storeAt(40000);
    x.put(0, 0, -100000);
    x.put(0, 40000, 100000);
    x.setQuery(39990, 5, 1, 3);
    is("22 a line beyond an int", x.ask(0, 0), -100000 + 200000L * 39990 / 40000);
  }

  private static void bucketsOnLine() {
    MeridianSeries x = storeAt(100);
    x.setSpan(3);
    x.putRow(0, 2, 10, 2, 5, 3);
    x.putRow(0, 41, 80, 2, -5, 3);
    x.setKeep(1, 0);
    x.goOn(1);
    x.setQuery(0, 10, 1, 3);
    is("22 from LAST to FIRST of buckets, by their starts: 20 + 60 * 20 / 40", x.ask(0, 2), 50);
    x.setQuery(0, 10, 1, 2);
    is("22 the LAST of a bucket", x.ask(0, 2), 20);
    x.setQuery(3, 10, 1, 2);
    is("22 a bucket ahead, by its start", x.ask(0, 0), 20);
  }

  private static void ask() {
    MeridianSeries x = storeAt(100);
    refuses(x, "22 series -1", INDEX, z -> z.ask(-1, 0));
    refuses(x, "22 series 1", INDEX, z -> z.ask(1, 0));
    refuses(x, "22 the series is named first", INDEX, z -> z.ask(1, -1));
    refuses(x, "22 window -1", ARGUMENT, z -> z.ask(0, -1));
    refuses(x, "22 window 1001", ARGUMENT, z -> z.ask(0, 1001));
    x.setQuery(0, 10000, 1, 2);
    x.put(0, 5, 6);
    is("22 window 1000", x.ask(0, 1000), 6);
    x.setQuery(99999, 10000, 1, 2);
    is("22 window 1000, far off", x.ask(0, 1000), 6);
    x.put(0, 3, -100000);
    for (int i = 0; i < 9; i++) {
      x.put(0, 10 + i, -100000);
    }
    x.setQuery(0, 100, 1, 0);
    is("22 the sum", x.ask(0, 0), 6 - 1000000);
  }

  private static void over() {
    MeridianSeries x = new MeridianSeries();
    x.addSeries(3, 5);
    x.addSeries(3, 6);
    x.addSeries(3, 5);
    x.addSeries(4, 3);
    x.goOn(100);
    refuses(x, "23 label -1", ARGUMENT, z -> z.over(false, -1, 0, 0));
    refuses(x, "23 label 10", ARGUMENT, z -> z.over(false, 10, 0, 0));
    refuses(x, "23 how -1", ARGUMENT, z -> z.over(false, 0, -1, 0));
    refuses(x, "23 how 4", ARGUMENT, z -> z.over(false, 0, 4, 0));
    refuses(x, "23 window -1", ARGUMENT, z -> z.over(false, 0, 0, -1));
    refuses(x, "23 window 1001", ARGUMENT, z -> z.over(false, 0, 0, 1001));
    x.put(0, 12, 40);
    x.put(1, 13, -7);
    x.put(2, 25, 9);
    x.put(3, 14, 1000);
    int[] due = {33, -7, 40, 2};
    int[] dueOfOther = {40, 40, 40, 1};
    int[] dueOfNone = {NOTHING, NOTHING, NOTHING, 0};
    for (int how = 0; how < 4; how++) {
      is("23 first label, how " + how, x.over(false, 3, how, 1), due[how]);
      is("23 second label, how " + how, x.over(true, 5, how, 1), dueOfOther[how]);
      is("23 no such label, how " + how, x.over(true, 9, how, 1), dueOfNone[how]);
      is("23 gaps alone, how " + how, x.over(true, 6, how, 2), dueOfNone[how]);
      is("23 label 0, how " + how, x.over(false, 0, how, 1), dueOfNone[how]);
    }
    x.setQuery(0, 10, 0, 0);
    is("23 a count of 0 is not NOTHING", x.over(false, 3, 3, 1), 3);
    is("23 the least count", x.over(false, 3, 1, 1), 0);
    overSumThatIsNothing();
  }

  private static void overSumThatIsNothing() {
    MeridianSeries x = storeAt(100);
    x.addSeries(1, 2);
    x.putRow(0, 0, -100000, 1, 0, 10);
    x.put(1, 4, 3);
    is("22 a sum of NOTHING", x.ask(0, 0), NOTHING);
    is("23 it is left out", x.over(false, 1, 0, 0), 3);
    is("23 and not counted", x.over(false, 1, 3, 0), 1);
  }

  private static void gaps() {
    MeridianSeries x = storeAt(200);
    refuses(x, "24 series", INDEX, z -> z.gaps(1, 1));
    refuses(x, "24 the series is named first", INDEX, z -> z.gaps(-1, 0));
    refuses(x, "24 windows 0", ARGUMENT, z -> z.gaps(0, 0));
    refuses(x, "24 windows 101", ARGUMENT, z -> z.gaps(0, 101));
    is("24 all", x.gaps(0, 100), 100);
    x.putRow(0, 10, 1, 10, 1, 5);
    x.put(0, 59, 1);
    is("24 one", x.gaps(0, 1), 1);
    is("24 one of six", x.gaps(0, 6), 1);
    is("24 three of eight", x.gaps(0, 8), 3);
    x.setQuery(11, 9, 0, 1);
    is("24 by the query: 11, 20, 29, 38, 47, 56", x.gaps(0, 6), 1);
  }

  private static void lastAt() {
    MeridianSeries x = storeAt(200);
    refuses(x, "25 series", INDEX, z -> z.lastAt(1, 0));
    refuses(x, "25 the series is named first", INDEX, z -> z.lastAt(1, -1));
    refuses(x, "25 time -1", ARGUMENT, z -> z.lastAt(0, -1));
    refuses(x, "25 time 100000", ARGUMENT, z -> z.lastAt(0, 100000));
    is("25 without an item", x.lastAt(0, 99999), -1);
    x.setSpan(2);
    x.putRow(0, 27, 1, 10, 1, 3);
    is("25 below all", x.lastAt(0, 26), -1);
    is("25 at one", x.lastAt(0, 27), 27);
    is("25 between", x.lastAt(0, 40), 37);
    is("25 behind all", x.lastAt(0, 99999), 47);
    x.setKeep(1, 0);
    x.goOn(1);
    is("25 a bucket by its start", x.lastAt(0, 26), 20);
    is("25 a bucket by its start", x.lastAt(0, 46), 30);
    is("25 below it", x.lastAt(0, 19), -1);
    is("25 time 0", x.lastAt(0, 0), -1);
  }

  private static void addRule() {
    MeridianSeries x = storeAt(10);
    refuses(x, "26 series 1", INDEX, z -> z.addRule(1, 0, 1, 1, true, 0, 1));
    refuses(x, "26 the series is named first", INDEX, z -> z.addRule(-1, 9, 0, 0, true, 0, 0));
    refuses(x, "26 what -1", ARGUMENT, z -> z.addRule(0, -1, 1, 1, true, 0, 1));
    refuses(x, "26 what 8", ARGUMENT, z -> z.addRule(0, 8, 1, 1, true, 0, 1));
    refuses(x, "26 length 0", ARGUMENT, z -> z.addRule(0, 0, 0, 1, true, 0, 1));
    refuses(x, "26 length 501", ARGUMENT, z -> z.addRule(0, 0, 501, 1, true, 0, 1));
    refuses(x, "26 every 0", ARGUMENT, z -> z.addRule(0, 0, 1, 0, true, 0, 1));
    refuses(x, "26 every 61", ARGUMENT, z -> z.addRule(0, 0, 1, 61, true, 0, 1));
    refuses(x, "26 limit too small", ARGUMENT, z -> z.addRule(0, 0, 1, 1, true, -1000001, 1));
    refuses(x, "26 limit too great", ARGUMENT, z -> z.addRule(0, 0, 1, 1, true, 1000001, 1));
    refuses(x, "26 times 0", ARGUMENT, z -> z.addRule(0, 0, 1, 1, true, 0, 0));
    refuses(x, "26 times 6", ARGUMENT, z -> z.addRule(0, 0, 1, 1, true, 0, 6));
    for (int i = 0; i < 8; i++) {
      boolean isEdge = i % 2 == 0;
      int limit = isEdge ? 1000000 : -1000000;
      is("26 number", x.addRule(0, isEdge ? 7 : 0, isEdge ? 500 : 1, isEdge ? 60 : 1, true, limit, isEdge ? 5 : 1), i);
      is("27 calm", x.stateOf(i), 0);
      is("28 none in a row", x.inRow(i), 0);
    }
    refuses(x, "26 a ninth", STATE, z -> z.addRule(0, 0, 1, 1, true, 0, 1));
    refuses(x, "26 the argument is named first", ARGUMENT, z -> z.addRule(0, 0, 1, 1, true, 0, 6));
    refuses(x, "26 the series first of all", INDEX, z -> z.addRule(9, 0, 1, 1, true, 0, 6));
    for (int bad : new int[] {-1, 8, Integer.MAX_VALUE}) {
      refuses(x, "27 rule", INDEX, z -> z.stateOf(bad));
      refuses(x, "28 rule", INDEX, z -> z.inRow(bad));
      refuses(x, "29 rule", INDEX, z -> z.seenBy(bad));
    }
  }

  private static void step(MeridianSeries x, int by, int events, int state, int inRow) {
    is("9 events up to " + (x.now() + by), x.goOn(by), events);
    is("27 state at " + x.now(), x.stateOf(0), state);
    is("28 in a row at " + x.now(), x.inRow(0), inRow);
  }

  private static void ruleThatFires() {
    MeridianSeries x = storeAt(12);
    x.addRule(0, 5, 20, 5, true, 9, 3);
    x.put(0, 12, 10);
    is("29 seen without 12 itself", x.seenBy(0), NOTHING);
    step(x, 2, 0, 0, 0);
    is("29 seen at 14", x.seenBy(0), 10);
    step(x, 1, 0, 1, 1);
    step(x, 5, 0, 1, 2);
    step(x, 4, 0, 1, 2);
    step(x, 1, 1, 2, 0);
    is("31 when", x.event(0, 0), 25);
    is("31 which", x.event(0, 1), 0);
    is("31 firing", x.event(0, 2), 2);
    x.put(0, 24, 9);
    step(x, 5, 0, 2, 1);
    x.put(0, 30, 10);
    step(x, 5, 0, 2, 0);
    x.put(0, 34, 9);
    step(x, 10, 0, 2, 2);
    step(x, 5, 1, 0, 0);
    is("31 when", x.event(0, 0), 50);
    is("31 calm", x.event(0, 2), 0);
    is("31 the one ahead", x.event(1, 0), 25);
    step(x, 5, 0, 0, 0);
    is("29 seen at 55, 34 not in it", x.seenBy(0), NOTHING);
    is("30 events", x.events(), 2);
  }

  private static void ruleThatStirs() {
    MeridianSeries x = storeAt(10);
    x.put(0, 10, -5);
    x.addRule(0, 2, 2, 1, false, 0, 3);
    step(x, 1, 0, 1, 1);
    step(x, 1, 0, 1, 2);
    step(x, 1, 0, 0, 0);
    is("30 calm from stirred is no event", x.events(), 0);
    x.put(0, 13, 0);
    step(x, 1, 0, 0, 0);
    is("29 0 is not below 0", x.seenBy(0), 0);
    MeridianSeries y = storeAt(10);
    y.addRule(0, 0, 5, 1, false, 1, 1);
    is("29 a count of nothing", y.seenBy(0), 0);
    step(y, 1, 1, 2, 0);
    y.put(0, 11, 3);
    step(y, 1, 1, 0, 0);
    step(y, 4, 0, 0, 0);
    step(y, 1, 1, 2, 0);
    MeridianSeries z = storeAt(10);
    z.addRule(0, 1, 5, 1, false, 1, 1);
    step(z, 9, 0, 0, 0);
  }

  /** A sum that is the number of NOTHING does not hold; and rules see what was rolled up first. */
  private static void ruleOverSums() {
    MeridianSeries x = storeAt(20);
    x.setSpan(16);
    x.putRow(0, 1, -100000, 1, 0, 10);
    x.addRule(0, 1, 100, 1, false, 0, 1);
    is("29 a sum", x.seenBy(0), NOTHING);
    step(x, 1, 0, 0, 0);
    x.put(0, 21, -1);
    step(x, 1, 1, 2, 0);
    MeridianSeries y = storeAt(25);
    y.setSpan(2);
    y.putRow(0, 18, 1, 1, 0, 2);
    y.setKeep(6, 0);
    y.addRule(0, 0, 9, 1, true, 0, 1);
    is("29 seen at 25", y.seenBy(0), 2);
    step(y, 1, 0, 0, 0);
    is("29 the bucket starts at 10", y.seenBy(0), 0);
  }

  private static void eventsKept() {
    MeridianSeries x = storeAt(50);
    refuses(x, "31 none yet", INDEX, z -> z.event(0, 0));
    x.addRule(0, 0, 1, 1, true, 0, 1);
    for (int i = 0; i < 11; i++) {
      x.put(0, 50 + i * 3, 1);
      x.goOn(3);
    }
    is("30 events", x.events(), 22);
    for (int back = 0; back < 20; back++) {
      is("31 now of " + back, x.event(back, 0), 82 - back / 2 * 3 - back % 2);
      is("31 rule of " + back, x.event(back, 1), 0);
      is("31 state of " + back, x.event(back, 2), back % 2 * 2);
    }
    refuses(x, "31 back 20", INDEX, z -> z.event(20, 0));
    refuses(x, "31 back -1", INDEX, z -> z.event(-1, 0));
    refuses(x, "31 back is named first", INDEX, z -> z.event(20, 3));
    refuses(x, "31 what -1", ARGUMENT, z -> z.event(0, -1));
    refuses(x, "31 what 3", ARGUMENT, z -> z.event(0, 3));
    MeridianSeries y = storeAt(0);
    y.addRule(0, 0, 1, 1, false, 5, 1);
    y.addRule(0, 0, 1, 1, false, 5, 1);
    is("30 two rules fire at once", y.goOn(1), 2);
    is("31 the later one by number", y.event(0, 1), 1);
    is("31 the one ahead", y.event(1, 1), 0);
    refuses(y, "31 back as many as there were", INDEX, z -> z.event(2, 0));
  }

  private static void bitsWith() {
    MeridianSeries x = storeAt(100);
    refuses(x, "32 series", INDEX, z -> z.bitsWith(1, 0, 0));
    refuses(x, "32 the series is named first", INDEX, z -> z.bitsWith(1, -1, 0));
    refuses(x, "32 time -1", ARGUMENT, z -> z.bitsWith(0, -1, 0));
    refuses(x, "32 time above NOW", ARGUMENT, z -> z.bitsWith(0, 101, 0));
    refuses(x, "32 value too small", ARGUMENT, z -> z.bitsWith(0, 0, -100001));
    refuses(x, "32 value too great", ARGUMENT, z -> z.bitsWith(0, 0, 100001));
    is("32 alone", x.bitsWith(0, 100, 0), 47);
    x.setSpan(16);
    x.putRow(0, 10, 0, 10, 0, 3);
    long before = x.digest();
    is("32 behind them", x.bitsWith(0, 40, 0), 47 + 9 + 2 + 2);
    is("32 ahead of them", x.bitsWith(0, 5, 0), 47 + 9 + 9 + 2);
    is("32 between them", x.bitsWith(0, 15, 0), 47 + 9 + 2 + 9);
    is("32 instead of one", x.bitsWith(0, 20, 1), 47 + 8 + 7 + 1 + 7);
    is("32 nothing is changed", x.digest(), before);
    x.setSpan(3);
    x.put(0, 30, 0);
    is("32 late", x.bitsWith(0, 30, 0), -1);
    is("32 not late", x.bitsWith(0, 31, 0), 47);
  }

  private static void firesIn() {
    MeridianSeries x = storeAt(10);
    refuses(x, "33 by 0", ARGUMENT, z -> z.firesIn(0));
    refuses(x, "33 by 101", ARGUMENT, z -> z.firesIn(101));
    is("33 without rules", x.firesIn(100), -1);
    x.put(0, 10, 8);
    x.addRule(0, 3, 60, 20, true, 7, 3);
    is("33 at 60", x.firesIn(100), 50);
    is("33 up to 60", x.firesIn(50), 50);
    is("33 not up to 59", x.firesIn(49), -1);
    long before = x.digest();
    x.firesIn(100);
    is("33 nothing is changed", x.digest(), before);
    is("33 it comes so", x.goOn(50), 1);
    is("33 firing already, and no more", x.firesIn(100), -1);
    MeridianSeries y = storeAt(40);
    y.setSpan(2);
    y.putRow(0, 18, 3, 1, 0, 2);
    y.put(0, 25, 3);
    y.setKeep(25, 0);
    y.addRule(0, 0, 30, 1, false, 2, 1);
    is("33 behind rolling up: 18 and 19 go to 10 at 45", y.firesIn(100), 5);
    y.setKeep(0, 0);
    is("33 without that: 18 is out at 49, 19 at 50", y.firesIn(100), 10);
    is("33 nothing is rolled up", y.buckets(0, false), 0);
    secondFiring();
    firingOverBuckets();
    firingFromStirred();
  }

  /** What is tried sees the fine and coarse buckets of the store, and those of no trial before. */
  private static void firingOverBuckets() {
    MeridianSeries x = storeAt(200);
    x.setSpan(2);
    x.setWidths(10, 2);
    x.putRow(0, 140, 1, 1, 2, 2);
    x.putRow(0, 185, 20, 1, 7, 2);
    x.setKeep(1, 0);
    x.goOn(1);
    x.setKeep(1, 40);
    x.goOn(1);
    is("33 a coarse bucket", x.buckets(0, true), 1);
    is("33 a fine bucket", x.buckets(0, false), 1);
    x.addRule(0, 7, 100, 10, true, 25, 1);
    is("33 27 - 1 in both", x.firesIn(100), 8);
    x.addRule(0, 4, 100, 1, true, 1, 1);
    x.addRule(0, 5, 70, 1, false, 28, 1);
    is("33 27 is the LAST", x.firesIn(100), 1);
    is("33 once more", x.firesIn(100), 1);
    is("9 it comes so", x.goOn(1), 1);
    is("31 by rule 2", x.event(0, 1), 2);
    is("33 rule 0 still", x.firesIn(100), 7);
  }

  private static void firingFromStirred() {
    MeridianSeries x = storeAt(10);
    x.put(0, 10, 5);
    x.addRule(0, 1, 90, 10, true, 0, 4);
    x.goOn(25);
    is("28 two in a row", x.inRow(0), 2);
    is("33 two more", x.firesIn(100), 15);
  }

  /** Becoming calm is not becoming firing; firing again is. */
  private static void secondFiring() {
    MeridianSeries x = storeAt(10);
    x.put(0, 9, 5);
    x.addRule(0, 0, 3, 1, false, 1, 1);
    is("33 at 13", x.firesIn(10), 3);
    x.goOn(5);
    x.put(0, 15, 1);
    is("33 calm at 16, firing again at 19", x.firesIn(10), 4);
    x.setKeep(1, 1);
    is("33 again the same", x.firesIn(10), 4);
  }

  private static void wouldRoll() {
    MeridianSeries x = storeAt(50);
    refuses(x, "34 keep -1", ARGUMENT, z -> z.wouldRoll(-1));
    refuses(x, "34 keep 10001", ARGUMENT, z -> z.wouldRoll(10001));
    is("34 nothing there", x.wouldRoll(1), 0);
    x.addSeries(0, 0);
    x.setSpan(2);
    x.putRow(0, 10, 0, 5, 0, 7);
    x.putRow(1, 20, 0, 1, 0, 4);
    is("34 keep 0", x.wouldRoll(0), 0);
    is("34 15 is not below 51 - 36", x.wouldRoll(36), 0);
    is("34 15 is below 51 - 35", x.wouldRoll(35), 1);
    is("34 21 is below 51 - 29, 25 is not", x.wouldRoll(29), 2);
    is("34 all that are sealed", x.wouldRoll(1), 5);
    is("34 none, far on", x.wouldRoll(10000), 0);
    x.setKeep(35, 0);
    is("34 whatever KEEP is", x.wouldRoll(1), 5);
    is("34 nothing is changed", x.blocks(0), 4);
    x.goOn(1);
    is("34 it comes so", x.blocks(0), 3);
  }

  /** More calls than the document promises are needed for this; the class goes on all the same. */
  private static void endOfTime() {
    MeridianSeries y = new MeridianSeries();
    y.addSeries(0, 0);
    y.setSpan(2);
    for (int i = 0; i < 999; i++) {
      y.goOn(100);
    }
    y.putRow(0, 5, 1, 1, 0, 2);
    y.goOn(98);
    is("10 one ahead of the last", y.now(), 99998);
    refuses(y, "9 above 99999", ARGUMENT, z -> z.goOn(2));
    refuses(y, "33 above 99999", ARGUMENT, z -> z.firesIn(2));
    is("33 up to 99999", y.firesIn(1), -1);
    is("34 at 99998", y.wouldRoll(10), 1);
    is("9 up to 99999", y.goOn(1), 0);
    is("34 at 99999", y.wouldRoll(10), 0);
    refuses(y, "34 wrong at 99999", ARGUMENT, z -> z.wouldRoll(10001));
    refuses(y, "9 no further", ARGUMENT, z -> z.goOn(1));
    is("25 at the last time", y.put(0, 99999, 4), 1);
    is("25 at the last time", y.lastAt(0, 99999), 99999);
  }

  private static long sumUp(long... numbers) {
    long d = 58058;
    for (long x : numbers) {
      d = d * 31 + x;
    }
    return d;
  }

  private static void digest() {
    MeridianSeries x = new MeridianSeries();
    is("35 new", x.digest(), sumUp(0, 0, 0, 0));
    x.addSeries(1, 2);
    is("35 a series", x.digest(), sumUp(0, 1, 0, 0, 1, 0, 0, 0, 0, NOTHING, NOTHING, NOTHING, NOTHING, NOTHING, NOTHING));
    x.goOn(100);
    x.setSpan(2);
    x.putRow(0, 3, 4, 1, 0, 2);
    x.setKeep(1, 0);
    x.goOn(1);
    x.putRow(0, 20, 6, 1, 0, 3);
    x.put(0, 2, 0);
    x.addRule(0, 0, 500, 1, true, 0, 1);
    x.setKeep(0, 0);
    x.goOn(1);
    long due = sumUp(
        102, 1, 1, 1,
        2, 2, 56, 20, 6, 21, 6, 1, 0, 22, 6,
        1, 0, 2, 8, 4, 4, 4, 4,
        0,
        8, NOTHING, 18, NOTHING, NOTHING, NOTHING,
        2, 0, 5,
        102, 0, 2);
    is("35 with all", x.digest(), due);
    x.setKeep(0, 1);
    x.goOn(1);
    long dueWithCoarse = sumUp(
        103, 1, 1, 1,
        2, 2, 56, 20, 6, 21, 6, 1, 0, 22, 6,
        0,
        1, 0, 2, 8, 4, 4, 4, 4,
        8, NOTHING, 18, NOTHING, NOTHING, NOTHING,
        2, 0, 5,
        102, 0, 2);
    is("35 with a coarse bucket", x.digest(), dueWithCoarse);
    is("35 once more", x.digest(), dueWithCoarse);
    stirredRule();
    latestFive();
  }

  private static void stirredRule() {
    MeridianSeries x = storeAt(9);
    x.put(0, 9, 4);
    x.addRule(0, 1, 10, 1, true, 0, 5);
    x.goOn(3);
    long none = NOTHING;
    long due = sumUp(12, 1, 0, 0, 1, 1, 0, 9, 4, 0, 0, 4, none, none, none, none, none, 1, 3, 4);
    is("35 a rule with 3 times in a row", x.digest(), due);
  }

  private static void latestFive() {
    MeridianSeries x = storeAt(0);
    for (int i = 0; i < 6; i++) {
      x.addRule(0, 0, 1, 1, false, 1, 1);
    }
    x.goOn(1);
    long none = NOTHING;
    long due = sumUp(
        1, 1, 0, 6,
        1, 0, 0, 0, 0, none, none, none, none, none, none,
        2, 0, 0, 2, 0, 0, 2, 0, 0, 2, 0, 0, 2, 0, 0, 2, 0, 0,
        1, 5, 2, 1, 4, 2, 1, 3, 2, 1, 2, 2, 1, 1, 2);
    is("35 the latest 5 events alone", x.digest(), due);
  }
}
