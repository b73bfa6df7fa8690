/** The edges that "2 PACKING" names, sentence by sentence, with promises 16, 17, 21 and 32. */
public final class PackingEdgeTest extends Check {
  public static void main(String[] args) {
    howManyPoints();
    firstTimeAndValue();
    stepsOfSecondPoint();
    stepsOfThirdPoint();
    stepsFarOff();
    valuesUpAndDown();
    valuesFarOff();
    zerosBehindTheLastBit();
    fullBlock();
    nothingOfOtherBlocks();
    ratio();
    bitsWithPlaces();
    bitsWithLate();
    bitsWithWhatWouldSeal();
    bitsWithAsItComes();
    end("edges of packing");
  }

  /** All bits of a sealed block, as its words tell them; what is behind the last one must be 0. */
  private static String bitsOf(MeridianSeries x, int block) {
    int length = x.bits(0, block);
    int words = (length + 15) / 16;
    StringBuilder text = new StringBuilder();
    for (int word = 0; word < words; word++) {
      text.append(binary(x.word(0, block, word), 16));
    }
    isText("17 no word behind the last one", outcome(x, y -> y.word(0, block, words)), "throws " + INDEX);
    isText("17 0 behind the last bit", text.substring(length), "0".repeat(words * 16 - length));
    return text.substring(0, length);
  }

  private static String binary(int number, int width) {
    String digits = Integer.toBinaryString(number);
    return "0".repeat(Math.max(0, width - digits.length())) + digits;
  }

  private static MeridianSeries sealed(int now, int[] times, int[] values) {
    MeridianSeries x = storeAt(now);
    x.setSpan(times.length);
    for (int i = 0; i < times.length; i++) {
      x.put(0, times[i], values[i]);
    }
    return x;
  }

  /** "how many POINTS it has (6 bits)": 2, as the least, up to 16. */
  private static void howManyPoints() {
    String[] due = {"000010", "000011", "000111", "001000", "001111", "010000"};
    int[] sizes = {2, 3, 7, 8, 15, 16};
    for (int i = 0; i < sizes.length; i++) {
      MeridianSeries x = storeAt(100);
      x.setSpan(sizes[i]);
      x.putRow(0, 1, 0, 1, 0, sizes[i]);
      isText("17 " + sizes[i] + " points", bitsOf(x, 0).substring(0, 6), due[i]);
      is("16 47, 8 and 1, then 1 and 1 for each", x.bits(0, 0), 47 + 9 + 2 * (sizes[i] - 2));
    }
  }

  /** "the first time (20 bits); the first value + 2^20 (21 bits)" */
  private static void firstTimeAndValue() {
    int[] times = {0, 1, 15, 32767, 32768, 40000};
    int[] values = {0, -1, 1, -100000, 100000, 65536};
    String[] due = {
      "00000000000000000000" + "100000000000000000000",
      "00000000000000000001" + "011111111111111111111",
      "00000000000000001111" + "100000000000000000001",
      "00000111111111111111" + "011100111100101100000",
      "00001000000000000000" + "100011000011010100000",
      "00001001110001000000" + "100010000000000000000"
    };
    for (int i = 0; i < times.length; i++) {
      MeridianSeries x = sealed(40002, new int[] {times[i], times[i] + 1}, new int[] {values[i], values[i]});
      isText("17 time " + times[i] + ", value " + values[i], bitsOf(x, 0).substring(6, 47), due[i]);
    }
  }

  /** "E what D is more than the D of the POINT ahead (which is 0 for the first POINT)": E is D then. */
  private static void stepsOfSecondPoint() {
    int[] steps = {1, 32, 33, 256, 257};
    String[] due = {
      "10" + "100000", "10" + "111111", "110" + "100100000", "110" + "111111111",
      "111" + "100000000000100000001"
    };
    for (int i = 0; i < steps.length; i++) {
      MeridianSeries x = sealed(300, new int[] {7, 7 + steps[i]}, new int[] {5, 5});
      isText("17 the second time is " + steps[i] + " on", bitsOf(x, 0).substring(47), due[i] + "0");
    }
  }

  /** E of the third point, behind a D of 1000, at the ends of each code. */
  private static void stepsOfThirdPoint() {
    int[] steps = {0, 1, -1, 32, -31, 33, -32, 256, -255, 257, -256};
    String[] due = {
      "0", "10" + "100000", "10" + "011110", "10" + "111111", "10" + "000000",
      "110" + "100100000", "110" + "011011111", "110" + "111111111", "110" + "000000000",
      "111" + "100000000000100000001", "111" + "011111111111100000000"
    };
    for (int i = 0; i < steps.length; i++) {
      MeridianSeries x = sealed(3000, new int[] {0, 1000, 2000 + steps[i]}, new int[] {5, 5, 5});
      String second = "111" + binary(1000 + 1048576, 21) + "0";
      isText("17 E " + steps[i], bitsOf(x, 0).substring(47), second + due[i] + "0");
    }
  }

  /** From D 1 to D 40000, and back to D 1. */
  private static void stepsFarOff() {
    MeridianSeries x = sealed(50000, new int[] {0, 1, 40001, 40002}, new int[] {0, 0, 0, 0});
    String due = "10" + "100000" + "0" + "111" + binary(39999 + 1048576, 21) + "0"
        + "111" + binary(1048576 - 39999, 21) + "0";
    isText("17 E 39999 and -39999", bitsOf(x, 0).substring(47), due);
  }

  /** F at the ends of each code. */
  private static void valuesUpAndDown() {
    int[] mores = {0, 1, -1, 16, -15, 17, -16, 512, -511, 513, -512};
    String[] due = {
      "0", "10" + "10000", "10" + "01110", "10" + "11111", "10" + "00000",
      "110" + "1000010000", "110" + "0111101111", "110" + "1111111111", "110" + "0000000000",
      "111" + "1000000001000000001", "111" + "0111111111000000000"
    };
    for (int i = 0; i < mores.length; i++) {
      int more = mores[i];
      MeridianSeries x = sealed(50, new int[] {0, 1, 2}, new int[] {40, 40, 40 + more});
      isText("17 F " + more, bitsOf(x, 0).substring(56), "0" + due[i]);
      MeridianSeries y = sealed(50, new int[] {0, 1}, new int[] {-more, 0});
      isText("17 F " + more + " of the second point", bitsOf(y, 0).substring(55), due[i]);
    }
  }

  private static void valuesFarOff() {
    MeridianSeries x = sealed(50, new int[] {0, 1, 2}, new int[] {-100000, 100000, -100000});
    String due = "111" + binary(200000 + 262144, 19) + "0" + "111" + binary(262144 - 200000, 19);
    isText("17 F 200000 and -200000", bitsOf(x, 0).substring(55), due);
  }

  /** Lengths of 79, 80 and 81 bits: 5, 5 and 6 words. */
  private static void zerosBehindTheLastBit() {
    MeridianSeries x = sealed(500, new int[] {0, 100, 300}, new int[] {5, 5, 6});
    is("16 12 and 1, 12 and 7 bits", x.bits(0, 0), 79);
    is("17 15 bits in the last word", x.word(0, 0, 4) % 2, 0);
    is("17 the last bit is ahead of it", x.word(0, 0, 4) / 2 % 32, 16);
    bitsOf(x, 0);
    MeridianSeries y = sealed(500, new int[] {0, 100, 200}, new int[] {5, 105, 120});
    is("16 12 and 13, 1 and 7 bits", y.bits(0, 0), 80);
    is("17 16 bits in the last word", y.word(0, 0, 4) % 32, 30);
    bitsOf(y, 0);
    MeridianSeries z = sealed(500, new int[] {0, 100}, new int[] {0, 1001});
    is("16 12 and 22 bits", z.bits(0, 0), 81);
    is("17 one bit in the last word, the greatest one", z.word(0, 0, 5), 32768);
    bitsOf(z, 0);
  }

  /** 16 points that take the most bits: 47 and 15 times 24 and 22. */
  private static void fullBlock() {
    int[] times = new int[16];
    int[] values = new int[16];
    StringBuilder due = new StringBuilder("010000" + binary(0, 20) + binary(948576, 21));
    for (int i = 1; i < 16; i++) {
      boolean isFar = i % 2 == 1;
      times[i] = times[i - 1] + (isFar ? 600 : 1);
      due.append("111").append(binary(1048576 + (i == 1 ? 600 : isFar ? 599 : -599), 21));
      due.append("111").append(binary(262144 + (isFar ? 200000 : -200000), 19));
    }
    for (int i = 0; i < 16; i++) {
      values[i] = i % 2 == 0 ? -100000 : 100000;
    }
    MeridianSeries x = sealed(6000, times, values);
    is("16 the most bits", x.bits(0, 0), 737);
    isText("17 the most words", bitsOf(x, 0), due.toString());
  }

  /** A long block, then a short one, asked in either order. */
  private static void nothingOfOtherBlocks() {
    MeridianSeries x = sealed(500, new int[] {0, 100, 101}, new int[] {100000, -100000, 77777});
    x.setSpan(2);
    x.putRow(0, 200, 0, 1, 0, 2);
    x.put(0, 300, 0);
    String shortOne = "000010" + binary(200, 20) + binary(1048576, 21) + "10" + "100000" + "0";
    isText("17 the short one first", bitsOf(x, 1), shortOne);
    String longOne = bitsOf(x, 0);
    isText("17 the short one behind the long one", bitsOf(x, 1), shortOne);
    isText("17 the long one once more", bitsOf(x, 0), longOne);
    x.bitsWith(0, 400, 55555);
    isText("17 behind bitsWith", bitsOf(x, 1), shortOne);
    is("16 the open one has none", x.bits(0, 2), 0);
    is("16 the short one", x.bits(0, 1), 56);
  }

  /** "divided once by 64 times the number of POINTS in these, not cut; 0 without any" */
  private static void ratio() {
    MeridianSeries x = storeAt(200);
    x.addSeries(2, 2);
    is("21 without any", x.ratio(), 0.0);
    x.putRow(0, 0, 1, 1, 1, 7);
    is("21 without a sealed one", x.ratio(), 0.0);
    x.setSpan(2);
    x.putRow(1, 10, 0, 1, 0, 3);
    is("21 the least: 2 points", x.ratio(), 56.0 / 128);
    x.put(0, 7, 0);
    int bits = x.bits(0, 0) + x.bits(1, 0);
    is("21 8 and 2 points, the open one left out", x.ratio(), bits / 640.0);
    x.setSpan(3);
    x.putRow(1, 50, 4, 7, 9, 2);
    int all = bits + x.bits(1, 1);
    is("21 13 points: a ratio without an end", x.ratio(), all / 832.0);
    x.setKeep(150, 0);
    x.goOn(1);
    is("34 two blocks are rolled up", x.blocks(0) + x.blocks(1), 3);
    is("21 what is rolled up is left out", x.ratio(), x.bits(1, 0) / 192.0);
    x.setKeep(1, 0);
    x.goOn(1);
    is("21 none left", x.ratio(), 0.0);
  }

  /** "how many bits the OPEN BLOCK would have, if this POINT was put": in its place, or instead. */
  private static void bitsWithPlaces() {
    MeridianSeries x = storeAt(1000);
    is("32 the first point", x.bitsWith(0, 0, -100000), 47);
    is("32 the first point, at NOW", x.bitsWith(0, 1000, 100000), 47);
    x.put(0, 100, 10);
    is("32 behind one", x.bitsWith(0, 101, 10), 47 + 9);
    is("32 ahead of one", x.bitsWith(0, 99, 10), 47 + 9);
    is("32 instead of one", x.bitsWith(0, 100, -5), 47);
    x.put(0, 200, 10);
    x.put(0, 300, 10);
    is("32 ahead of three: D 1, 100, 100", x.bitsWith(0, 99, 10), 47 + 9 + 13 + 2);
    is("32 between: D 50, 50, 100", x.bitsWith(0, 150, 10), 47 + 13 + 2 + 13);
    is("32 behind: D 100, 100, 1", x.bitsWith(0, 301, 10), 47 + 13 + 2 + 13);
    is("32 instead of the first one, value 11", x.bitsWith(0, 100, 11), 47 + 12 + 7 + 2);
    is("32 instead of the second one, value 11", x.bitsWith(0, 200, 11), 47 + 12 + 7 + 1 + 7);
    is("32 instead of the last one, value 11", x.bitsWith(0, 300, 11), 47 + 13 + 1 + 7);
    is("14 nothing is put", x.size(0, 0), 3);
  }

  /** "-1 if it is LATE" */
  private static void bitsWithLate() {
    MeridianSeries x = storeAt(100);
    x.addSeries(1, 1);
    x.setSpan(2);
    x.putRow(0, 40, 1, 10, 1, 2);
    is("32 at the greatest sealed time", x.bitsWith(0, 50, 1), -1);
    is("32 below it", x.bitsWith(0, 0, 1), -1);
    is("32 one above it", x.bitsWith(0, 51, 1), 47);
    is("32 another series", x.bitsWith(1, 50, 1), 47);
    is("12 none is counted", x.late(), 0);
    x.setKeep(1, 0);
    x.goOn(1);
    is("32 rolled up, and late still", x.bitsWith(0, 50, 1), -1);
    is("32 one above it", x.bitsWith(0, 51, 1), 47);
  }

  /** "and it was SEALED then as it is": whatever SPAN is. */
  private static void bitsWithWhatWouldSeal() {
    MeridianSeries x = storeAt(100);
    x.setSpan(16);
    x.putRow(0, 10, 0, 1, 0, 15);
    is("32 a sixteenth one", x.bitsWith(0, 25, 0), 47 + 9 + 14 * 2);
    x.setSpan(2);
    is("32 a sixteenth one, span 2", x.bitsWith(0, 25, 0), 47 + 9 + 14 * 2);
    is("32 instead, span 2", x.bitsWith(0, 24, 0), 47 + 9 + 13 * 2);
    is("13 nothing is sealed", x.blocks(0), 1);
    MeridianSeries y = fullStore();
    int due = y.bitsWith(0, 446, 9);
    is("13 nothing is rolled up", y.buckets(0, false), 24);
    y.put(0, 446, 9);
    is("32 as it is when it has come", y.bits(0, 7), due);
  }

  /** What bitsWith tells is what the block has when it is sealed by that point. */
  private static void bitsWithAsItComes() {
    int[] times = {3, 4, 40, 41, 50, 499, 500};
    int[] values = {-100000, 0, 12, 13, 14, 600, 100000};
    for (int i = 0; i < times.length; i++) {
      for (int value : values) {
        MeridianSeries x = storeAt(500);
        x.put(0, 4, 12);
        x.put(0, 41, 13);
        x.put(0, 499, -600);
        int told = x.bitsWith(0, times[i], value);
        x.setSpan(2);
        is("7 it seals", x.put(0, times[i], value), 0);
        is("32 as it comes, at " + times[i] + " with " + value, x.bits(0, 0), told);
      }
    }
  }
}
