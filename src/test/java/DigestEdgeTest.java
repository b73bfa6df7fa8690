import java.math.BigInteger;
import java.util.ArrayList;
import java.util.List;

/** Promise 35, sentence by sentence: its numbers by the calls that it names, and the wrap-around. */
public final class DigestEdgeTest extends Check {
  public static void main(String[] args) {
    emptyStore();
    allByCalls("one series", storeAt(0));
    allByCalls("a mixed store", mixedStore());
    allByCalls("a full store", fullStore());
    allByCalls("series of many kinds", storeOfKinds());
    wrapsAround();
    events();
    windowsByQuery();
    nothingIsChanged();
    end("edges of the digest");
  }

  /** All numbers, one after the other, by the other calls of the store. */
  private static List<Long> numbersOf(MeridianSeries x) {
    List<Long> all = new ArrayList<>();
    all.add((long) x.now());
    all.add((long) x.series());
    all.add((long) x.late());
    all.add((long) x.events());
    for (int series = 0; series < x.series(); series++) {
      addBlocks(x, series, all);
      addBuckets(x, series, false, all);
      addBuckets(x, series, true, all);
      for (int window = 0; window <= 5; window++) {
        all.add((long) x.ask(series, window));
      }
    }
    for (int rule = 0; !outcome(x, ruleSeen(rule)).startsWith("throws"); rule++) {
      all.add((long) x.stateOf(rule));
      all.add((long) x.inRow(rule));
      all.add((long) x.seenBy(rule));
    }
    for (int back = 0; back < Math.min(5, x.events()); back++) {
      for (int what = 0; what <= 2; what++) {
        all.add((long) x.event(back, what));
      }
    }
    return all;
  }

  private static Use ruleSeen(int rule) {
    return x -> x.seenBy(rule);
  }

  private static void addBlocks(MeridianSeries x, int series, List<Long> all) {
    all.add((long) x.blocks(series));
    for (int block = 0; block < x.blocks(series); block++) {
      all.add((long) x.size(series, block));
      all.add((long) x.bits(series, block));
      for (int point = 0; point < x.size(series, block); point++) {
        all.add((long) x.point(series, block, point, false));
        all.add((long) x.point(series, block, point, true));
      }
    }
  }

  private static void addBuckets(MeridianSeries x, int series, boolean isCoarse, List<Long> all) {
    all.add((long) x.buckets(series, isCoarse));
    for (int bucket = 0; bucket < x.buckets(series, isCoarse); bucket++) {
      for (int what = 0; what <= 6; what++) {
        all.add((long) x.ofBucket(series, isCoarse, bucket, what));
      }
    }
  }

  /** Without any bound first, and then its lowest 64 bits, with their sign. */
  private static BigInteger sumUp(List<Long> numbers) {
    BigInteger d = BigInteger.valueOf(58058);
    for (long number : numbers) {
      d = d.multiply(BigInteger.valueOf(31)).add(BigInteger.valueOf(number));
    }
    return d;
  }

  private static void allByCalls(String what, MeridianSeries x) {
    is("35 " + what, x.digest(), sumUp(numbersOf(x)).longValue());
  }

  private static void emptyStore() {
    MeridianSeries x = new MeridianSeries();
    is("35 without series", x.digest(), 58058L * 31 * 31 * 31 * 31);
    x.goOn(7);
    is("35 NOW 7", x.digest(), (58058L * 31 + 7) * 31 * 31 * 31);
  }

  /** One series without points, one with an open block, one with all its blocks rolled up. */
  private static MeridianSeries storeOfKinds() {
    MeridianSeries x = storeAt(150);
    x.addSeries(0, 0);
    x.addSeries(9, 9);
    x.put(1, 5, -100000);
    x.put(1, 6, 100000);
    x.putRow(2, 5, -7, 9, -11, 16);
    x.setKeep(1, 60);
    x.goOn(1);
    x.put(2, 3, 1);
    x.setQuery(0, 31, 7, 3);
    return x;
  }

  /** "which wraps around as a 64-bit integer": once above the greatest one, and over and over. */
  private static void wrapsAround() {
    MeridianSeries x = storeAt(0);
    BigInteger d = sumUp(numbersOf(x));
    is("35 15 numbers are beyond 64 bits", d.bitLength() > 64 ? 1 : 0, 1);
    is("35 they wrap around", x.digest(), d.longValue());
    boolean isBelow0 = false;
    boolean isAbove0 = false;
    for (int i = 0; i < 20; i++) {
      x.goOn(1);
      allByCalls("at NOW " + x.now(), x);
      isBelow0 |= x.digest() < 0;
      isAbove0 |= x.digest() > 0;
    }
    is("35 there were digests below 0, and above", isBelow0 && isAbove0 ? 1 : 0, 1);
  }

  /** "for each of the latest 5 EVENTS (or all), the latest one first": with none up to seven. */
  private static void events() {
    MeridianSeries x = storeAt(0);
    for (int i = 0; i < 7; i++) {
      allByCalls("with " + i + " events", x);
      x.addRule(0, 0, 1, 1, false, 1, 1);
      is("9 one more", x.goOn(1), 1);
    }
    allByCalls("with 7 events", x);
  }

  /** "ask() of 0 to 5": the windows of the query that is set. */
  private static void windowsByQuery() {
    MeridianSeries x = storeAt(100);
    x.putRow(0, 0, 1, 5, 3, 7);
    for (int what = 0; what < 8; what++) {
      for (int fill = 0; fill < 4; fill++) {
        x.setQuery(3, 8, what, fill);
        allByCalls("told " + what + ", FILL " + fill, x);
      }
    }
  }

  private static void nothingIsChanged() {
    MeridianSeries x = mixedStore();
    long d = x.digest();
    is("35 once more", x.digest(), d);
    MeridianSeries y = mixedStore();
    isText("35 nothing is changed", told(x), told(y));
    is("35 stores made alike", mixedStore().digest(), d);
  }
}
