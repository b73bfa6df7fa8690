import java.util.ArrayList;
import java.util.Arrays;
import java.util.List;
import java.util.Map;
import java.util.TreeMap;

/** Long runs of calls: every answer of the program is compared with that of a slow model. */
public final class ModelTest {
  private static final int RUNS = 240;
  private static final int CALLS = 512;
  private static final int MOST_REPORTS = 20;

  private static int wrong = 0;

  public static void main(String[] args) {
    for (int run = 0; run < RUNS && wrong < MOST_REPORTS; run++) {
      new Run(run).play();
    }
    System.out.println(wrong == 0 ? "model: all answers are as due" : wrong + " answers are wrong");
    if (wrong != 0) {
      System.exit(1);
    }
  }

  /** The numbers follow from the seed alone, so that every run of the test is the same. */
  private static final class Numbers {
    private long seed;

    Numbers(long seed) {
      this.seed = seed * 7919 + 17;
    }

    int from(int least, int greatest) {
      seed = seed * 6364136223846793005L + 1442695040888963407L;
      long high = seed >>> 33;
      return (int) (least + high % ((long) greatest - least + 1));
    }

    boolean oneIn(int many) {
      return from(1, many) == 1;
    }

    int oneOf(int... choices) {
      return choices[from(0, choices.length - 1)];
    }
  }

  private static final class Run {
    private final int number;
    private final Numbers numbers;
    private final MeridianSeries program = new MeridianSeries();
    private final Model model = new Model();
    private final List<String> said = new ArrayList<>();
    private final int mood;

    Run(int number) {
      this.number = number;
      this.numbers = new Numbers(number);
      this.mood = number % 6;
    }

    void play() {
      begin();
      while (said.size() < CALLS - 8 && wrong < MOST_REPORTS) {
        step();
        if (numbers.oneIn(12)) {
          call("digest");
        }
      }
      call("now");
      call("late");
      call("events");
      call("ratio");
      call("digest");
    }

    private void begin() {
      int count = mood == 0 ? 1 : numbers.from(1, 6);
      for (int i = 0; i < count; i++) {
        call("addSeries", numbers.from(0, 3), numbers.from(0, 3));
      }
      if (mood == 1) {
        call("setWidths", numbers.from(2, 6), numbers.from(2, 4));
        call("setSpan", numbers.from(2, 4));
      }
      if (mood == 2) {
        call("setKeep", numbers.from(1, 60), numbers.from(1, 300));
      }
      if (mood == 3) {
        call("setWidths", numbers.from(2, 100), numbers.from(2, 20));
        call("setKeep", numbers.from(1, 300), numbers.oneOf(0, 50, 500));
      }
      if (mood == 4) {
        beginFarOn();
      }
      call("goOn", numbers.from(20, 100));
    }

    /** Far on, times can be so far apart that all codes of the blocks come up. */
    private void beginFarOn() {
      for (int i = 0; i < 40; i++) {
        call("goOn", 100);
      }
      for (int series = 0; series < model.chains.size(); series++) {
        for (int i = 0, time = 0; i < 12; i++) {
          time += numbers.oneOf(1, 2, 20, 60, 200, 300);
          call("put", series, time, numbers.oneOf(0, 1, -1, 15, 500, -500, 700, 100000, -100000));
        }
        for (int word = 0; word < 24; word++) {
          call("word", series, 0, word);
        }
      }
    }

    private void step() {
      int kind = numbers.from(0, 99);
      if (kind < 26) {
        stepPoints();
      } else if (kind < 38) {
        call("goOn", numbers.oneIn(12) ? numbers.oneOf(0, -1, 101, 100) : numbers.from(1, 40));
      } else if (kind < 46) {
        stepSettings();
      } else if (kind < 66) {
        stepStored();
      } else if (kind < 82) {
        stepWindows();
      } else if (kind < 94) {
        stepRules();
      } else {
        stepWouldBe();
      }
    }

    private int series() {
      return numbers.oneIn(25)
          ? numbers.oneOf(-1, 6, model.chains.size(), Integer.MIN_VALUE, Integer.MAX_VALUE)
          : numbers.from(0, Math.max(0, model.chains.size() - 1));
    }

    private int time() {
      if (numbers.oneIn(25)) {
        return numbers.oneOf(-1, model.now + 1, model.now, 0, 99999, 100000, Integer.MAX_VALUE);
      }
      return numbers.from(numbers.oneIn(4) ? 0 : Math.max(0, model.now - 60), model.now);
    }

    private int value() {
      if (numbers.oneIn(25)) {
        return numbers.oneOf(-100001, 100001, 100000, -100000, Integer.MIN_VALUE);
      }
      return numbers.oneIn(3) ? numbers.from(-100000, 100000) : numbers.from(-40, 40);
    }

    private void stepPoints() {
      if (numbers.oneIn(2)) {
        call("put", series(), time(), value());
        return;
      }
      int count = numbers.oneIn(20) ? numbers.oneOf(0, 31, 30, -5) : numbers.from(1, 30);
      int every = numbers.oneIn(20) ? numbers.oneOf(0, 1001, 1000) : numbers.from(1, 7);
      int more = numbers.oneIn(20) ? numbers.oneOf(100000, Integer.MAX_VALUE) : numbers.from(-60, 60);
      int time = numbers.oneIn(4) ? time() : Math.max(0, model.now - every * (count - 1));
      call("putRow", series(), time, value(), every, more, count);
    }

    private void stepSettings() {
      switch (numbers.from(0, 5)) {
        case 0:
          call("setSpan", numbers.oneIn(10) ? numbers.oneOf(1, 17, 2, 16) : numbers.from(2, 16));
          break;
        case 1:
          call("setWidths", numbers.from(1, 101), numbers.from(1, 21));
          break;
        case 2:
          call("setKeep", numbers.oneOf(0, 1, 30, 100, 10000, 10001, -1), numbers.oneOf(0, 1, 50, 200, 10001));
          break;
        case 3:
          call("addSeries", numbers.from(-1, 10), numbers.from(0, 9));
          break;
        default:
          int from = numbers.oneIn(15) ? numbers.oneOf(-1, 99999, 100000) : numbers.from(0, model.now);
          int step = numbers.oneIn(15) ? numbers.oneOf(0, 10000, 10001) : numbers.from(1, 25);
          call("setQuery", from, step, numbers.from(0, numbers.oneIn(15) ? 8 : 7), numbers.from(numbers.oneIn(15) ? -1 : 0, numbers.oneIn(15) ? 4 : 3));
      }
    }

    private void stepStored() {
      int series = series();
      int block = numbers.from(-1, 9);
      int flag = numbers.from(0, 1);
      switch (numbers.from(0, 9)) {
        case 0:
          call("blocks", series);
          break;
        case 1:
          call("size", series, block);
          break;
        case 2:
          call("point", series, block, numbers.from(-1, 16), flag);
          break;
        case 3:
          call("bits", series, block);
          break;
        case 4:
        case 5:
          call("word", series, numbers.from(0, 3), numbers.from(-1, 20));
          break;
        case 6:
          call("buckets", series, flag);
          break;
        case 7:
          call("ofBucket", series, flag, numbers.from(-1, numbers.oneOf(3, 25)), numbers.from(-1, 7));
          break;
        case 8:
          call("items", series);
          break;
        default:
          call("ratio");
      }
    }

    private void stepWindows() {
      int window = numbers.oneIn(15) ? numbers.oneOf(-1, 1000, 1001) : numbers.from(0, 30);
      switch (numbers.from(0, 4)) {
        case 0:
        case 1:
          call("ask", series(), window);
          break;
        case 2:
          call("over", numbers.from(0, 1), numbers.oneIn(15) ? numbers.oneOf(-1, 10) : numbers.from(0, 3), numbers.from(numbers.oneIn(15) ? -1 : 0, numbers.oneIn(15) ? 4 : 3), window);
          break;
        case 3:
          call("gaps", series(), numbers.oneIn(15) ? numbers.oneOf(0, 101) : numbers.from(1, 100));
          break;
        default:
          call("lastAt", series(), numbers.oneIn(15) ? numbers.oneOf(-1, 99999, 100000) : numbers.from(0, model.now + 5));
      }
    }

    private void stepRules() {
      int rule = numbers.oneIn(15) ? numbers.oneOf(-1, 8) : numbers.from(0, Math.max(0, model.rules.size() - 1));
      switch (numbers.from(0, 7)) {
        case 0:
          int what = numbers.oneIn(15) ? numbers.oneOf(-1, 8) : numbers.from(0, 7);
          int length = numbers.oneIn(15) ? numbers.oneOf(0, 500, 501) : numbers.from(1, 120);
          int every = numbers.oneIn(15) ? numbers.oneOf(0, 60, 61) : numbers.from(1, 12);
          int limit = numbers.oneIn(15) ? numbers.oneOf(-1000001, 1000001, -1000000, 1000000) : numbers.from(-30, 30);
          int times = numbers.oneIn(15) ? numbers.oneOf(0, 6) : numbers.from(1, 5);
          call("addRule", series(), what, length, every, numbers.from(0, 1), limit, times);
          break;
        case 1:
          call("stateOf", rule);
          break;
        case 2:
          call("inRow", rule);
          break;
        case 3:
        case 4:
          call("seenBy", rule);
          break;
        case 5:
          call("events");
          break;
        default:
          call("event", numbers.from(-1, numbers.oneOf(3, 20)), numbers.from(-1, 3));
      }
    }

    private void stepWouldBe() {
      switch (numbers.from(0, 3)) {
        case 0:
        case 1:
          call("bitsWith", series(), time(), value());
          break;
        case 2:
          call("firesIn", numbers.oneIn(12) ? numbers.oneOf(0, 101) : numbers.from(1, 100));
          break;
        default:
          call("wouldRoll", numbers.oneIn(12) ? numbers.oneOf(-1, 0, 10000, 10001) : numbers.from(1, 200));
      }
    }

    private void call(String name, int... a) {
      String text = name + Arrays.toString(a);
      said.add(text);
      String got = outcomeOf(() -> ofProgram(name, a));
      String due = outcomeOf(() -> model.answer(name, a));
      if (!got.equals(due)) {
        wrong++;
        System.out.println("run " + number + ", call " + said.size() + ": " + text + " answered " + got + ", due is " + due);
      }
    }

    private Object ofProgram(String name, int[] a) {
      switch (name) {
        case "addSeries": return program.addSeries(a[0], a[1]);
        case "setSpan": return program.setSpan(a[0]);
        case "setWidths": return program.setWidths(a[0], a[1]);
        case "setKeep": return program.setKeep(a[0], a[1]);
        case "setQuery": return program.setQuery(a[0], a[1], a[2], a[3]);
        case "put": return program.put(a[0], a[1], a[2]);
        case "putRow": return program.putRow(a[0], a[1], a[2], a[3], a[4], a[5]);
        case "goOn": return program.goOn(a[0]);
        case "now": return program.now();
        case "series": return program.series();
        case "late": return program.late();
        case "blocks": return program.blocks(a[0]);
        case "size": return program.size(a[0], a[1]);
        case "point": return program.point(a[0], a[1], a[2], a[3] == 1);
        case "bits": return program.bits(a[0], a[1]);
        case "word": return program.word(a[0], a[1], a[2]);
        case "buckets": return program.buckets(a[0], a[1] == 1);
        case "ofBucket": return program.ofBucket(a[0], a[1] == 1, a[2], a[3]);
        case "items": return program.items(a[0]);
        case "ratio": return program.ratio();
        case "ask": return program.ask(a[0], a[1]);
        case "over": return program.over(a[0] == 1, a[1], a[2], a[3]);
        case "gaps": return program.gaps(a[0], a[1]);
        case "lastAt": return program.lastAt(a[0], a[1]);
        case "addRule": return program.addRule(a[0], a[1], a[2], a[3], a[4] == 1, a[5], a[6]);
        case "stateOf": return program.stateOf(a[0]);
        case "inRow": return program.inRow(a[0]);
        case "seenBy": return program.seenBy(a[0]);
        case "events": return program.events();
        case "event": return program.event(a[0], a[1]);
        case "bitsWith": return program.bitsWith(a[0], a[1], a[2]);
        case "firesIn": return program.firesIn(a[0]);
        case "wouldRoll": return program.wouldRoll(a[0]);
        case "digest": return program.digest();
        default: throw new AssertionError(name);
      }
    }
  }

  private interface Answer {
    Object get();
  }

  private static String outcomeOf(Answer answer) {
    try {
      return String.valueOf(answer.get());
    } catch (RuntimeException e) {
      return "throws " + e.getClass().getSimpleName();
    }
  }

  /** The document, in lists and texts of bits, as plainly and slowly as it reads. */
  private static final class Model {
    static final long NOTHING = -1000000;

    final List<Chain> chains = new ArrayList<>();
    final List<Watch> rules = new ArrayList<>();
    final List<int[]> happened = new ArrayList<>();
    int now = 0;
    int late = 0;
    int span = 8;
    int width = 10;
    int fold = 6;
    int keep = 0;
    int longKeep = 0;
    int from = 0;
    int step = 10;
    int what = 1;
    int fill = 0;

    /** start, count, sum, min, max, first, last: of a bucket, and of a point as an item. */
    static long[] itemOf(int time, long value) {
      return new long[] {time, 1, value, value, value, value, value};
    }

    static final class Chain {
      int one;
      int other;
      List<TreeMap<Integer, Integer>> sealed = new ArrayList<>();
      TreeMap<Integer, Integer> open = new TreeMap<>();
      List<long[]> fine = new ArrayList<>();
      List<long[]> coarse = new ArrayList<>();
      List<Integer> sealedTimes = new ArrayList<>();

      Chain copy() {
        Chain c = new Chain();
        c.one = one;
        c.other = other;
        for (TreeMap<Integer, Integer> block : sealed) {
          c.sealed.add(new TreeMap<>(block));
        }
        c.open = new TreeMap<>(open);
        for (long[] bucket : fine) {
          c.fine.add(bucket.clone());
        }
        for (long[] bucket : coarse) {
          c.coarse.add(bucket.clone());
        }
        c.sealedTimes = new ArrayList<>(sealedTimes);
        return c;
      }

      List<TreeMap<Integer, Integer>> allBlocks() {
        List<TreeMap<Integer, Integer>> all = new ArrayList<>(sealed);
        all.add(open);
        return all;
      }

      List<long[]> items() {
        List<long[]> all = new ArrayList<>(coarse);
        all.addAll(fine);
        for (TreeMap<Integer, Integer> block : allBlocks()) {
          for (Map.Entry<Integer, Integer> p : block.entrySet()) {
            all.add(itemOf(p.getKey(), p.getValue()));
          }
        }
        return all;
      }

      boolean isLate(int time) {
        for (int sealedTime : sealedTimes) {
          if (time <= sealedTime) {
            return true;
          }
        }
        return false;
      }
    }

    static final class Watch {
      int series;
      int what;
      int length;
      int every;
      boolean above;
      int limit;
      int times;
      int state;
      int row;

      Watch copy() {
        Watch w = new Watch();
        w.series = series;
        w.what = what;
        w.length = length;
        w.every = every;
        w.above = above;
        w.limit = limit;
        w.times = times;
        w.state = state;
        w.row = row;
        return w;
      }
    }

    Model copy() {
      Model m = new Model();
      for (Chain chain : chains) {
        m.chains.add(chain.copy());
      }
      for (Watch rule : rules) {
        m.rules.add(rule.copy());
      }
      m.now = now;
      m.span = span;
      m.width = width;
      m.fold = fold;
      m.keep = keep;
      m.longKeep = longKeep;
      return m;
    }

    static void must(boolean good) {
      if (!good) {
        throw new IllegalArgumentException();
      }
    }

    static void mustBeThere(boolean good) {
      if (!good) {
        throw new IndexOutOfBoundsException();
      }
    }

    static void mustBeAllowed(boolean good) {
      if (!good) {
        throw new IllegalStateException();
      }
    }

    static boolean in(long x, long least, long greatest) {
      return least <= x && x <= greatest;
    }

    Chain chain(int number) {
      mustBeThere(in(number, 0, chains.size() - 1));
      return chains.get(number);
    }

    Watch rule(int number) {
      mustBeThere(in(number, 0, rules.size() - 1));
      return rules.get(number);
    }

    Object answer(String name, int[] a) {
      switch (name) {
        case "addSeries": return addOne(a[0], a[1]);
        case "setSpan": case "setWidths": case "setKeep": case "setQuery": return set(name, a);
        case "put": return putOne(a[0], a[1], a[2]);
        case "putRow": return putMany(a[0], a[1], a[2], a[3], a[4], a[5]);
        case "goOn":
          must(in(a[0], 1, 100) && now + a[0] <= 99999);
          int before = happened.size();
          for (int i = 0; i < a[0]; i++) {
            tick();
          }
          return happened.size() - before;
        case "now": return now;
        case "series": return chains.size();
        case "late": return late;
        case "ask": case "over": case "gaps": case "lastAt": return window(name, a);
        case "addRule": return addWatch(a);
        case "stateOf": return rule(a[0]).state;
        case "inRow": return rule(a[0]).row;
        case "seenBy": return seen(rule(a[0]));
        case "events": return happened.size();
        case "event":
          mustBeThere(in(a[0], 0, 19) && a[0] < happened.size());
          must(in(a[1], 0, 2));
          return happened.get(happened.size() - 1 - a[0])[a[1]];
        case "bitsWith": case "firesIn": case "wouldRoll": return wouldBe(name, a);
        case "digest": return checksum();
        default: return stored(name, a);
      }
    }

    Object addOne(int one, int other) {
      must(in(one, 0, 9) && in(other, 0, 9));
      mustBeAllowed(chains.size() < 6);
      Chain c = new Chain();
      c.one = one;
      c.other = other;
      chains.add(c);
      return chains.size() - 1;
    }

    Object set(String name, int[] a) {
      int before;
      switch (name) {
        case "setSpan":
          must(in(a[0], 2, 16));
          before = span;
          span = a[0];
          return before;
        case "setWidths":
          must(in(a[0], 2, 100) && in(a[1], 2, 20));
          for (Chain c : chains) {
            mustBeAllowed(c.fine.isEmpty() && c.coarse.isEmpty());
          }
          before = width;
          width = a[0];
          fold = a[1];
          return before;
        case "setKeep":
          must(in(a[0], 0, 10000) && in(a[1], 0, 10000));
          before = keep;
          keep = a[0];
          longKeep = a[1];
          return before;
        default:
          must(in(a[0], 0, 99999) && in(a[1], 1, 10000) && in(a[2], 0, 7) && in(a[3], 0, 3));
          before = step;
          from = a[0];
          step = a[1];
          what = a[2];
          fill = a[3];
          return before;
      }
    }

    Object putOne(int series, int time, int value) {
      Chain c = chain(series);
      must(in(time, 0, now) && in(value, -100000, 100000));
      return putTo(c, time, value);
    }

    int putTo(Chain c, int time, int value) {
      if (c.isLate(time)) {
        late++;
        return -1;
      }
      c.open.put(time, value);
      if (c.open.size() < span) {
        return c.open.size();
      }
      c.sealedTimes.add(c.open.lastKey());
      c.sealed.add(c.open);
      c.open = new TreeMap<>();
      if (c.sealed.size() == 9) {
        rollBlock(c);
      }
      return 0;
    }

    Object putMany(int series, int time, int value, int every, int more, int count) {
      Chain c = chain(series);
      must(in(count, 1, 30) && in(every, 1, 1000));
      must(in(time, 0, now) && in(time + (count - 1L) * every, 0, now));
      must(in(value, -100000, 100000) && in(value + (count - 1L) * more, -100000, 100000));
      int put = 0;
      for (int i = 0; i < count; i++) {
        put += putTo(c, time + i * every, value + i * more) == -1 ? 0 : 1;
      }
      return put;
    }

    void rollBlock(Chain c) {
      for (Map.Entry<Integer, Integer> p : c.sealed.remove(0).entrySet()) {
        into(c.fine, p.getKey() / width * width, itemOf(p.getKey(), p.getValue()));
        if (c.fine.size() == 25) {
          rollFine(c);
        }
      }
    }

    void rollFine(Chain c) {
      long[] bucket = c.fine.remove(0);
      long wide = (long) width * fold;
      into(c.coarse, bucket[0] / wide * wide, bucket);
      if (c.coarse.size() == 25) {
        c.coarse.remove(0);
      }
    }

    static void into(List<long[]> row, long start, long[] item) {
      long[] last = row.isEmpty() ? null : row.get(row.size() - 1);
      if (last == null || last[0] != start) {
        long[] fresh = item.clone();
        fresh[0] = start;
        row.add(fresh);
        return;
      }
      last[1] += item[1];
      last[2] += item[2];
      last[3] = Math.min(last[3], item[3]);
      last[4] = Math.max(last[4], item[4]);
      last[6] = item[6];
    }

    boolean tick() {
      now++;
      for (Chain c : chains) {
        while (!c.sealed.isEmpty() && keep != 0 && c.sealed.get(0).lastKey() < now - keep) {
          rollBlock(c);
        }
        while (!c.fine.isEmpty() && longKeep != 0 && c.fine.get(0)[0] + width <= now - longKeep) {
          rollFine(c);
        }
      }
      boolean fired = false;
      for (int i = 0; i < rules.size(); i++) {
        Watch w = rules.get(i);
        if (now % w.every == 0 && lookAt(w)) {
          happened.add(new int[] {now, i, w.state});
          fired |= w.state == 2;
        }
      }
      return fired;
    }

    boolean lookAt(Watch w) {
      long told = seen(w);
      boolean holds = told != NOTHING && (w.above ? told > w.limit : told < w.limit);
      int was = w.state;
      if (was == 0 && holds) {
        w.state = 1;
        w.row = 1;
      } else if (was == 1) {
        w.state = holds ? 1 : 0;
        w.row = holds ? w.row + 1 : 0;
      } else if (was == 2) {
        w.row = holds ? 0 : w.row + 1;
        if (w.row == w.times) {
          w.state = 0;
          w.row = 0;
        }
      }
      if (w.state == 1 && w.row >= w.times) {
        w.state = 2;
        w.row = 0;
      }
      return w.state != was && (w.state == 2 || was == 2);
    }

    long seen(Watch w) {
      return tell(chains.get(w.series), now - w.length, now, w.what, 0);
    }

    static long tell(Chain c, int begin, int end, int what, int fill) {
      List<long[]> within = new ArrayList<>();
      long[] ahead = null;
      long[] behind = null;
      for (long[] item : c.items()) {
        if (item[0] < begin) {
          ahead = item;
        } else if (item[0] < end) {
          within.add(item);
        } else if (behind == null) {
          behind = item;
        }
      }
      if (within.isEmpty()) {
        return what == 0 ? 0 : toldOfGap(ahead, behind, begin, fill);
      }
      long count = 0;
      long sum = 0;
      long min = Long.MAX_VALUE;
      long max = Long.MIN_VALUE;
      for (long[] item : within) {
        count += item[1];
        sum += item[2];
        min = Math.min(min, item[3]);
        max = Math.max(max, item[4]);
      }
      long[] all = {count, sum, min, max, within.get(0)[5], within.get(within.size() - 1)[6], sum / count, max - min};
      return all[what];
    }

    static long toldOfGap(long[] p, long[] q, int w, int fill) {
      if (fill == 1) {
        return 0;
      }
      if (fill == 2 && p != null) {
        return p[6];
      }
      if (fill == 3 && p != null && q != null) {
        return p[6] + (q[5] - p[6]) * (w - p[0]) / (q[0] - p[0]);
      }
      return NOTHING;
    }

    long asked(Chain c, int window) {
      int begin = from + window * step;
      return tell(c, begin, begin + step, what, fill);
    }

    Object window(String name, int[] a) {
      switch (name) {
        case "ask":
          Chain asked = chain(a[0]);
          must(in(a[1], 0, 1000));
          return asked(asked, a[1]);
        case "over":
          return over(a[0] == 1, a[1], a[2], a[3]);
        case "gaps":
          Chain looked = chain(a[0]);
          must(in(a[1], 1, 100));
          int gaps = 0;
          for (int k = 0; k < a[1]; k++) {
            gaps += tell(looked, from + k * step, from + k * step + step, 0, 0) == 0 ? 1 : 0;
          }
          return gaps;
        default:
          Chain c = chain(a[0]);
          must(in(a[1], 0, 99999));
          long last = -1;
          for (long[] item : c.items()) {
            last = item[0] <= a[1] ? item[0] : last;
          }
          return last;
      }
    }

    Object over(boolean isOther, int label, int how, int window) {
      must(in(label, 0, 9) && in(how, 0, 3) && in(window, 0, 1000));
      List<Long> told = new ArrayList<>();
      for (Chain c : chains) {
        if ((isOther ? c.other : c.one) == label && asked(c, window) != NOTHING) {
          told.add(asked(c, window));
        }
      }
      if (how == 3) {
        return told.size();
      }
      if (told.isEmpty()) {
        return NOTHING;
      }
      told.sort(null);
      long sum = 0;
      for (long x : told) {
        sum += x;
      }
      return how == 0 ? sum : how == 1 ? told.get(0) : told.get(told.size() - 1);
    }

    Object addWatch(int[] a) {
      chain(a[0]);
      must(in(a[1], 0, 7) && in(a[2], 1, 500) && in(a[3], 1, 60));
      must(in(a[5], -1000000, 1000000) && in(a[6], 1, 5));
      mustBeAllowed(rules.size() < 8);
      Watch w = new Watch();
      w.series = a[0];
      w.what = a[1];
      w.length = a[2];
      w.every = a[3];
      w.above = a[4] == 1;
      w.limit = a[5];
      w.times = a[6];
      rules.add(w);
      return rules.size() - 1;
    }

    Object wouldBe(String name, int[] a) {
      switch (name) {
        case "bitsWith":
          Chain c = chain(a[0]);
          must(in(a[1], 0, now) && in(a[2], -100000, 100000));
          if (c.isLate(a[1])) {
            return -1;
          }
          TreeMap<Integer, Integer> with = new TreeMap<>(c.open);
          with.put(a[1], a[2]);
          return packed(with).length();
        case "firesIn":
          must(in(a[0], 1, 100) && now + a[0] <= 99999);
          Model trial = copy();
          for (int i = 1; i <= a[0]; i++) {
            if (trial.tick()) {
              return i;
            }
          }
          return -1;
        default:
          must(in(a[0], 0, 10000));
          if (a[0] == 0 || now == 99999) {
            return 0;
          }
          Model next = copy();
          next.keep = a[0];
          next.tick();
          int gone = 0;
          for (int i = 0; i < chains.size(); i++) {
            gone += chains.get(i).sealed.size() - next.chains.get(i).sealed.size();
          }
          return gone;
      }
    }

    static String binary(long number, int bits) {
      StringBuilder text = new StringBuilder();
      for (long weight = 1L << (bits - 1); weight > 0; weight /= 2) {
        text.append(number / weight % 2 == 1 ? '1' : '0');
      }
      return text.toString();
    }

    static String packed(TreeMap<Integer, Integer> block) {
      StringBuilder text = new StringBuilder(binary(block.size(), 6));
      Integer time = null;
      int value = 0;
      int d = 0;
      for (Map.Entry<Integer, Integer> p : block.entrySet()) {
        if (time == null) {
          text.append(binary(p.getKey(), 20)).append(binary(p.getValue() + 1048576, 21));
        } else {
          int e = p.getKey() - time - d;
          d = p.getKey() - time;
          text.append(coded(e, 31, 6, 255, 9, 1048576, 21));
          text.append(coded(p.getValue() - value, 15, 5, 511, 10, 262144, 19));
        }
        time = p.getKey();
        value = p.getValue();
      }
      return text.toString();
    }

    static String coded(int x, int up1, int bits1, int up2, int bits2, int up3, int bits3) {
      if (x == 0) {
        return "0";
      }
      if (in(x + up1, 0, (1 << bits1) - 1)) {
        return "10" + binary(x + up1, bits1);
      }
      if (in(x + up2, 0, (1 << bits2) - 1)) {
        return "110" + binary(x + up2, bits2);
      }
      return "111" + binary(x + up3, bits3);
    }

    Object stored(String name, int[] a) {
      if (name.equals("ratio")) {
        long bits = 0;
        long points = 0;
        for (Chain c : chains) {
          for (TreeMap<Integer, Integer> block : c.sealed) {
            bits += packed(block).length();
            points += block.size();
          }
        }
        return points == 0 ? 0.0 : (double) bits / (double) (64 * points);
      }
      Chain c = chain(a[0]);
      switch (name) {
        case "blocks": return c.sealed.size() + 1;
        case "items": return c.items().size();
        case "buckets": return (a[1] == 1 ? c.coarse : c.fine).size();
        case "ofBucket":
          List<long[]> row = a[1] == 1 ? c.coarse : c.fine;
          mustBeThere(in(a[2], 0, row.size() - 1));
          must(in(a[3], 0, 6));
          return row.get(a[2])[a[3]];
        default:
          mustBeThere(in(a[1], 0, c.sealed.size()));
          return ofBlock(name, c.allBlocks().get(a[1]), a[1] == c.sealed.size(), a);
      }
    }

    Object ofBlock(String name, TreeMap<Integer, Integer> block, boolean isOpen, int[] a) {
      switch (name) {
        case "size": return block.size();
        case "point":
          mustBeThere(in(a[2], 0, block.size() - 1));
          int time = new ArrayList<>(block.keySet()).get(a[2]);
          return a[3] == 1 ? block.get(time) : time;
        case "bits": return isOpen ? 0 : packed(block).length();
        default:
          StringBuilder bits = new StringBuilder(isOpen ? "" : packed(block));
          while (bits.length() % 16 != 0) {
            bits.append('0');
          }
          mustBeThere(in(a[2], 0, bits.length() / 16 - 1));
          return Integer.parseInt(bits.substring(a[2] * 16, a[2] * 16 + 16), 2);
      }
    }

    Object checksum() {
      List<Long> all = new ArrayList<>(List.of((long) now, (long) chains.size(), (long) late, (long) happened.size()));
      for (Chain c : chains) {
        all.add(c.sealed.size() + 1L);
        for (TreeMap<Integer, Integer> block : c.allBlocks()) {
          all.add((long) block.size());
          all.add(block == c.open ? 0L : packed(block).length());
          for (Map.Entry<Integer, Integer> p : block.entrySet()) {
            all.add((long) p.getKey());
            all.add((long) p.getValue());
          }
        }
        for (List<long[]> row : List.of(c.fine, c.coarse)) {
          all.add((long) row.size());
          for (long[] bucket : row) {
            for (long x : bucket) {
              all.add(x);
            }
          }
        }
        for (int k = 0; k <= 5; k++) {
          all.add(asked(c, k));
        }
      }
      for (Watch w : rules) {
        all.addAll(List.of((long) w.state, (long) w.row, seen(w)));
      }
      for (int back = 0; back < 5 && back < happened.size(); back++) {
        for (int x : happened.get(happened.size() - 1 - back)) {
          all.add((long) x);
        }
      }
      long d = 58058;
      for (long x : all) {
        d = d * 31 + x;
      }
      return d;
    }
  }
}
