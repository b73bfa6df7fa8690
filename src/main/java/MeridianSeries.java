import java.util.ArrayList;
import java.util.Arrays;

/** A store of series: points in packed blocks, buckets they are rolled up to, windows, rules. */
public final class MeridianSeries {
  private static final int NOTHING = -1000000;
  private static final int MOST_SERIES = 6;
  private static final int MOST_RULES = 8;
  private static final int LAST_TIME = 99999;
  private static final int MOST_VALUE = 100000;
  private static final int MOST_LIMIT = 1000000;
  private static final int MOST_WINDOW = 1000;
  private static final int MOST_BY = 100;
  private static final int MOST_KEEP = 10000;
  private static final int EVENTS_KEPT = 20;
  private static final int EVENT_NUMBERS = 3;

  /** The numbers of a bucket, by the names that ofBucket has for them. */
  private static final int START = 0;
  private static final int COUNT = 1;
  private static final int SUM = 2;
  private static final int MIN = 3;
  private static final int MAX = 4;
  private static final int FIRST = 5;
  private static final int LAST = 6;
  private static final int BUCKET_NUMBERS = 7;

  /** What a window tells. */
  private static final int TELL_COUNT = 0;
  private static final int TELL_SUM = 1;
  private static final int TELL_MIN = 2;
  private static final int TELL_MAX = 3;
  private static final int TELL_FIRST = 4;
  private static final int TELL_LAST = 5;
  private static final int TELL_MEAN = 6;
  private static final int TELL_SPREAD = 7;

  private static final int FILL_NOTHING = 0;
  private static final int FILL_ZERO = 1;
  private static final int FILL_LAST = 2;
  private static final int FILL_LINE = 3;

  private static final int OVER_SUM = 0;
  private static final int OVER_LEAST = 1;
  private static final int OVER_GREATEST = 2;
  private static final int OVER_HOW_MANY = 3;

  private static final int CALM = 0;
  private static final int STIRRED = 1;
  private static final int FIRING = 2;

  private final Settings settings;
  private final Store store;
  /** What would be is tried here, so that the store itself stays as it is. */
  private final Store trial;
  private final Packer packer;
  private int queryFrom;
  private int queryStep;
  private int queryWhat;
  private int queryFill;
  private int lateCount;

  public MeridianSeries() {
    settings = new Settings();
    store = new Store(settings);
    trial = new Store(settings);
    packer = new Packer();
    queryFrom = 0;
    queryStep = 10;
    queryWhat = TELL_SUM;
    queryFill = FILL_NOTHING;
    lateCount = 0;
  }

  // ---- what is set

  public int addSeries(int one, int other) throws IllegalArgumentException, IllegalStateException {
    needArgument(isIn(one, 0, 9) && isIn(other, 0, 9));
    int number = store.chains.size();
    needState(number < MOST_SERIES);
    store.chains.add(new Series(one, other));
    trial.chains.add(new Series(one, other));
    return number;
  }

  public int setSpan(int span) throws IllegalArgumentException {
    needArgument(isIn(span, 2, 16));
    int before = settings.span;
    settings.span = span;
    return before;
  }

  public int setWidths(int width, int fold) throws IllegalArgumentException, IllegalStateException {
    needArgument(isIn(width, 2, 100) && isIn(fold, 2, 20));
    needState(!store.hasBucket());
    int before = settings.width;
    settings.width = width;
    settings.fold = fold;
    return before;
  }

  public int setKeep(int keep, int longKeep) throws IllegalArgumentException {
    needArgument(isIn(keep, 0, MOST_KEEP) && isIn(longKeep, 0, MOST_KEEP));
    int before = settings.keep;
    settings.keep = keep;
    settings.longKeep = longKeep;
    return before;
  }

  public int setQuery(int from, int step, int what, int fill) throws IllegalArgumentException {
    needArgument(isIn(from, 0, LAST_TIME) && isIn(step, 1, 10000));
    needArgument(isIn(what, TELL_COUNT, TELL_SPREAD) && isIn(fill, FILL_NOTHING, FILL_LINE));
    int before = queryStep;
    queryFrom = from;
    queryStep = step;
    queryWhat = what;
    queryFill = fill;
    return before;
  }

  // ---- points and time

  public int put(int series, int time, int value)
      throws IndexOutOfBoundsException, IllegalArgumentException {
    Series chain = chainAt(series);
    needArgument(isTimeUpToNow(time) && isValue(value));
    if (!putOrCountLate(chain, time, value)) {
      return -1;
    }
    return chain.points.openSize();
  }

  public int putRow(int series, int time, int value, int every, int more, int count)
      throws IndexOutOfBoundsException, IllegalArgumentException {
    Series chain = chainAt(series);
    needArgument(isIn(count, 1, 30) && isIn(every, 1, 1000));
    // As long numbers, for 29 steps of any int can be beyond an int.
    long lastTime = time + (count - 1L) * every;
    long lastValue = value + (count - 1L) * more;
    needArgument(isTimeUpToNow(time) && isTimeUpToNow(lastTime));
    needArgument(isValue(value) && isValue(lastValue));
    int stored = 0;
    for (int i = 0; i < count; i++) {
      if (putOrCountLate(chain, time + i * every, value + i * more)) {
        stored++;
      }
    }
    return stored;
  }

  public int goOn(int by) throws IllegalArgumentException {
    needArgument(canGoOn(by));
    int before = store.log.total;
    for (int i = 0; i < by; i++) {
      store.goOnByOne();
    }
    return store.log.total - before;
  }

  public int now() {
    return store.now;
  }

  public int series() {
    return store.chains.size();
  }

  public int late() {
    return lateCount;
  }

  // ---- what is stored

  public int blocks(int series) throws IndexOutOfBoundsException {
    return chainAt(series).points.blockCount();
  }

  public int size(int series, int block) throws IndexOutOfBoundsException {
    Points points = chainAt(series).points;
    needIndex(isIn(block, 0, points.sealedBlocks));
    return points.sizeOf(block);
  }

  public int point(int series, int block, int point, boolean isValue)
      throws IndexOutOfBoundsException {
    Points points = chainAt(series).points;
    needIndex(isIn(block, 0, points.sealedBlocks));
    needIndex(isIn(point, 0, points.sizeOf(block) - 1));
    return points.number(points.startOf(block) + point, isValue ? FIRST : START);
  }

  public int bits(int series, int block) throws IndexOutOfBoundsException {
    Points points = chainAt(series).points;
    needIndex(isIn(block, 0, points.sealedBlocks));
    return packer.pack(points, block);
  }

  public int word(int series, int block, int word) throws IndexOutOfBoundsException {
    Points points = chainAt(series).points;
    needIndex(isIn(block, 0, points.sealedBlocks - 1));
    packer.pack(points, block);
    needIndex(isIn(word, 0, packer.wordCount() - 1));
    return packer.wordAt(word);
  }

  public int buckets(int series, boolean isCoarse) throws IndexOutOfBoundsException {
    return chainAt(series).bucketsOf(isCoarse).amount;
  }

  public int ofBucket(int series, boolean isCoarse, int bucket, int what)
      throws IndexOutOfBoundsException, IllegalArgumentException {
    Buckets row = chainAt(series).bucketsOf(isCoarse);
    needIndex(isIn(bucket, 0, row.amount - 1));
    needArgument(isIn(what, START, LAST));
    return row.number(bucket, what);
  }

  public int items(int series) throws IndexOutOfBoundsException {
    return chainAt(series).itemCount();
  }

  public double ratio() {
    int allBits = 0;
    int allPoints = 0;
    for (int i = 0; i < store.chains.size(); i++) {
      Points points = store.chains.get(i).points;
      for (int block = 0; block < points.sealedBlocks; block++) {
        allBits += packer.pack(points, block);
      }
      allPoints += points.sealedPoints;
    }
    return allPoints > 0 ? allBits / (64.0 * allPoints) : 0.0;
  }

  // ---- windows

  public int ask(int series, int window)
      throws IndexOutOfBoundsException, IllegalArgumentException {
    Series chain = chainAt(series);
    needArgument(isIn(window, 0, MOST_WINDOW));
    return toldByQuery(chain, window);
  }

  public int over(boolean isOther, int label, int how, int window) throws IllegalArgumentException {
    needArgument(isIn(label, 0, 9) && isIn(how, OVER_SUM, OVER_HOW_MANY));
    needArgument(isIn(window, 0, MOST_WINDOW));
    int found = 0;
    int answer = NOTHING;
    for (int i = 0; i < store.chains.size(); i++) {
      Series chain = store.chains.get(i);
      int told = chain.hasLabel(isOther, label) ? toldByQuery(chain, window) : NOTHING;
      if (told != NOTHING) {
        answer = found == 0 ? told : joined(answer, told, how);
        found++;
      }
    }
    return how == OVER_HOW_MANY ? found : answer;
  }

  public int gaps(int series, int windows)
      throws IndexOutOfBoundsException, IllegalArgumentException {
    Series chain = chainAt(series);
    needArgument(isIn(windows, 1, 100));
    int found = 0;
    for (int window = 0; window < windows; window++) {
      int from = queryFrom + window * queryStep;
      if (chain.firstItemFrom(from) == chain.firstItemFrom(from + queryStep)) {
        found++;
      }
    }
    return found;
  }

  public int lastAt(int series, int time)
      throws IndexOutOfBoundsException, IllegalArgumentException {
    Series chain = chainAt(series);
    needArgument(isIn(time, 0, LAST_TIME));
    int item = chain.firstItemFrom(time + 1) - 1;
    return item < 0 ? -1 : chain.ofItem(item, START);
  }

  // ---- rules

  public int addRule(
      int series, int what, int length, int every, boolean isAbove, int limit, int times)
      throws IndexOutOfBoundsException, IllegalArgumentException, IllegalStateException {
    Series chain = chainAt(series);
    needArgument(isIn(what, TELL_COUNT, TELL_SPREAD) && isIn(length, 1, 500));
    needArgument(isIn(every, 1, 60) && isIn(limit, -MOST_LIMIT, MOST_LIMIT) && isIn(times, 1, 5));
    int number = store.rules.size();
    needState(number < MOST_RULES);
    store.rules.add(new Rule(chain, what, length, every, isAbove, limit, times));
    if (series < trial.chains.size()) {
      Series twin = trial.chains.get(series);
      trial.rules.add(new Rule(twin, what, length, every, isAbove, limit, times));
    }
    return number;
  }

  public int stateOf(int rule) throws IndexOutOfBoundsException {
    return ruleAt(rule).state;
  }

  public int inRow(int rule) throws IndexOutOfBoundsException {
    return ruleAt(rule).timesInRow;
  }

  public int seenBy(int rule) throws IndexOutOfBoundsException {
    return ruleAt(rule).told(store.now);
  }

  public int events() {
    return store.log.total;
  }

  public int event(int back, int what) throws IndexOutOfBoundsException, IllegalArgumentException {
    needIndex(isIn(back, 0, EVENTS_KEPT - 1) && back < store.log.total);
    needArgument(isIn(what, 0, EVENT_NUMBERS - 1));
    return store.log.number(back, what);
  }

  // ---- what would be (nothing is changed)

  public int bitsWith(int series, int time, int value)
      throws IndexOutOfBoundsException, IllegalArgumentException {
    Series chain = chainAt(series);
    needArgument(isTimeUpToNow(time) && isValue(value));
    if (chain.points.isLate(time)) {
      return -1;
    }
    return packer.packOpenWith(chain.points, time, value);
  }

  public int firesIn(int by) throws IllegalArgumentException {
    needArgument(canGoOn(by));
    trial.copyFrom(store);
    int before = trial.log.firings;
    for (int i = 1; i <= by; i++) {
      trial.goOnByOne();
      if (trial.log.firings > before) {
        return i;
      }
    }
    return -1;
  }

  public int wouldRoll(int keep) throws IllegalArgumentException {
    needArgument(isIn(keep, 0, MOST_KEEP));
    if (keep == 0 || store.now >= LAST_TIME) {
      return 0;
    }
    int found = 0;
    for (int i = 0; i < store.chains.size(); i++) {
      found += store.chains.get(i).points.blocksBelow(store.now + 1 - keep);
    }
    return found;
  }

  public long digest() {
    long d = 58058;
    d = d * 31 + store.now;
    d = d * 31 + store.chains.size();
    d = d * 31 + lateCount;
    d = d * 31 + store.log.total;
    for (int i = 0; i < store.chains.size(); i++) {
      Series chain = store.chains.get(i);
      d = withBlocks(d, chain.points);
      d = withBuckets(d, chain.fine);
      d = withBuckets(d, chain.coarse);
      d = withWindows(d, chain);
    }
    for (int i = 0; i < store.rules.size(); i++) {
      Rule rule = store.rules.get(i);
      d = d * 31 + rule.state;
      d = d * 31 + rule.timesInRow;
      d = d * 31 + rule.told(store.now);
    }
    for (int back = 0; back < 5 && back < store.log.total; back++) {
      for (int what = 0; what < EVENT_NUMBERS; what++) {
        d = d * 31 + store.log.number(back, what);
      }
    }
    return d;
  }

  private long withBlocks(long start, Points points) {
    long d = start * 31 + points.blockCount();
    int at = 0;
    for (int block = 0; block < points.blockCount(); block++) {
      int size = points.sizeOf(block);
      d = d * 31 + size;
      d = d * 31 + packer.pack(points, block);
      for (int i = 0; i < size; i++) {
        d = d * 31 + points.number(at, START);
        d = d * 31 + points.number(at, FIRST);
        at++;
      }
    }
    return d;
  }

  private static long withBuckets(long start, Buckets row) {
    long d = start * 31 + row.amount;
    for (int bucket = 0; bucket < row.amount; bucket++) {
      for (int what = START; what <= LAST; what++) {
        d = d * 31 + row.number(bucket, what);
      }
    }
    return d;
  }

  private long withWindows(long start, Series chain) {
    long d = start;
    for (int window = 0; window <= 5; window++) {
      d = d * 31 + toldByQuery(chain, window);
    }
    return d;
  }

  private static boolean isIn(long number, int least, int greatest) {
    return number >= least && number <= greatest;
  }

  private static boolean isValue(long value) {
    return isIn(value, -MOST_VALUE, MOST_VALUE);
  }

  private boolean isTimeUpToNow(long time) {
    return isIn(time, 0, store.now);
  }

  private boolean canGoOn(int by) {
    return isIn(by, 1, MOST_BY) && store.now + by <= LAST_TIME;
  }

  private static void needArgument(boolean isGood) {
    if (!isGood) {
      throw new IllegalArgumentException("an argument is out of its range");
    }
  }

  private static void needIndex(boolean isGood) {
    if (!isGood) {
      throw new IndexOutOfBoundsException("there is no such thing");
    }
  }

  private static void needState(boolean isGood) {
    if (!isGood) {
      throw new IllegalStateException("the store does not allow this now");
    }
  }

  private Series chainAt(int number) {
    if (number < 0 || number >= store.chains.size()) {
      throw new IndexOutOfBoundsException("there is no such series");
    }
    return store.chains.get(number);
  }

  private Rule ruleAt(int number) {
    if (number < 0 || number >= store.rules.size()) {
      throw new IndexOutOfBoundsException("there is no such rule");
    }
    return store.rules.get(number);
  }

  /** Tells whether the point was put; a late one is counted. */
  private boolean putOrCountLate(Series chain, int time, int value) {
    if (chain.points.isLate(time)) {
      lateCount++;
      return false;
    }
    chain.take(time, value, settings);
    return true;
  }

  private int toldByQuery(Series chain, int window) {
    int from = queryFrom + window * queryStep;
    return chain.tell(from, from + queryStep, queryWhat, queryFill);
  }

  private static int joined(int one, int other, int how) {
    switch (how) {
      case OVER_SUM:
        return one + other;
      case OVER_LEAST:
        return Math.min(one, other);
      default:
        return Math.max(one, other);
    }
  }

  /** What is set for all series. */
  private static final class Settings {
    int span = 8;
    int width = 10;
    int fold = 6;
    int keep = 0;
    int longKeep = 0;
  }

  /** All that changes as time goes. */
  private static final class Store {
    final Settings settings;
    final ArrayList<Series> chains = new ArrayList<>();
    final ArrayList<Rule> rules = new ArrayList<>();
    final EventLog log = new EventLog();
    int now = 0;

    Store(Settings settings) {
      this.settings = settings;
    }

    boolean hasBucket() {
      for (int i = 0; i < chains.size(); i++) {
        if (chains.get(i).fine.amount + chains.get(i).coarse.amount > 0) {
          return true;
        }
      }
      return false;
    }

    void goOnByOne() {
      now++;
      for (int i = 0; i < chains.size(); i++) {
        chains.get(i).rollUpBy(now, settings);
      }
      for (int i = 0; i < rules.size(); i++) {
        Rule rule = rules.get(i);
        if (rule.isDueAt(now) && rule.changesBy(rule.told(now))) {
          log.add(now, i, rule.state);
        }
      }
    }

    /** Takes over what another store with as many series and rules has, its old events left out. */
    void copyFrom(Store other) {
      now = other.now;
      for (int i = 0; i < chains.size() && i < other.chains.size(); i++) {
        chains.get(i).copyFrom(other.chains.get(i));
      }
      for (int i = 0; i < rules.size() && i < other.rules.size(); i++) {
        rules.get(i).copyFrom(other.rules.get(i));
      }
    }
  }

  /** How many events there were, and the latest ones. */
  private static final class EventLog {
    private final int[] cells = new int[EVENTS_KEPT * EVENT_NUMBERS];
    int total = 0;
    int firings = 0;

    void add(int now, int rule, int state) {
      int at = total % EVENTS_KEPT * EVENT_NUMBERS;
      if (at >= 0 && at + 2 < cells.length) {
        cells[at] = now;
        cells[at + 1] = rule;
        cells[at + 2] = state;
      }
      total++;
      if (state == FIRING) {
        firings++;
      }
    }

    int number(int back, int what) {
      int at = (total - 1 - back) % EVENTS_KEPT * EVENT_NUMBERS + what;
      return at >= 0 && at < cells.length ? cells[at] : 0;
    }
  }

  /** Things by their times, each with the numbers of a bucket. */
  private abstract static class Items {
    int amount = 0;

    abstract int number(int item, int what);
  }

  /** The points of a series that are stored as such, those of the open block last. */
  private static final class Points extends Items {
    private static final int MOST_SEALED = 8;
    private static final int BLOCK_ROOM = MOST_SEALED + 1;
    private static final int POINT_ROOM = (BLOCK_ROOM + 1) * 16;

    private final int[] times = new int[POINT_ROOM];
    private final int[] values = new int[POINT_ROOM];
    private final int[] sizes = new int[BLOCK_ROOM];
    int sealedBlocks = 0;
    int sealedPoints = 0;
    /** Of blocks that were rolled up, too. */
    private int greatestSealedTime = -1;

    int number(int item, int what) {
      if (item < 0 || item >= times.length || item >= values.length) {
        return 0;
      }
      switch (what) {
        case START:
          return times[item];
        case COUNT:
          return 1;
        default:
          return values[item];
      }
    }

    int blockCount() {
      return sealedBlocks + 1;
    }

    int openSize() {
      return amount - sealedPoints;
    }

    int sizeOf(int block) {
      return block >= 0 && block < sealedBlocks && block < sizes.length ? sizes[block] : openSize();
    }

    int startOf(int block) {
      int start = 0;
      for (int i = 0; i < block && i < sealedBlocks; i++) {
        start += sizeOf(i);
      }
      return start;
    }

    boolean isLate(int time) {
      return time <= greatestSealedTime;
    }

    /** The first point of the open block whose time is not below that. */
    int placeOf(int time) {
      for (int i = sealedPoints; i < amount; i++) {
        if (number(i, START) >= time) {
          return i;
        }
      }
      return amount;
    }

    boolean isTakenAt(int place, int time) {
      return place < amount && number(place, START) == time;
    }

    void add(int time, int value) {
      int place = placeOf(time);
      if (!isTakenAt(place, time)) {
        for (int i = amount; i > place; i--) {
          copyPoint(i - 1, i);
        }
        amount++;
      }
      write(place, time, value);
    }

    boolean hasTooManySealed() {
      return sealedBlocks > MOST_SEALED;
    }

    void seal() {
      if (sealedBlocks < sizes.length && openSize() > 0) {
        sizes[sealedBlocks] = openSize();
        sealedBlocks++;
        sealedPoints = amount;
        greatestSealedTime = number(amount - 1, START);
      }
    }

    void dropFirstBlock() {
      if (sealedBlocks <= 0) {
        return;
      }
      int gone = sizeOf(0);
      for (int i = gone; i < amount; i++) {
        copyPoint(i, i - gone);
      }
      for (int i = 1; i < sealedBlocks && i < sizes.length; i++) {
        sizes[i - 1] = sizes[i];
      }
      amount -= gone;
      sealedPoints -= gone;
      sealedBlocks--;
    }

    /** How many of the first sealed blocks have their last times below that. */
    int blocksBelow(int time) {
      int behind = 0;
      for (int block = 0; block < sealedBlocks; block++) {
        behind += sizeOf(block);
        if (number(behind - 1, START) >= time) {
          return block;
        }
      }
      return sealedBlocks;
    }

    void copyFrom(Points other) {
      for (int i = 0; i < other.amount; i++) {
        write(i, other.number(i, START), other.number(i, FIRST));
      }
      for (int i = 0; i < other.sealedBlocks && i < sizes.length; i++) {
        sizes[i] = other.sizeOf(i);
      }
      amount = other.amount;
      sealedBlocks = other.sealedBlocks;
      sealedPoints = other.sealedPoints;
      greatestSealedTime = other.greatestSealedTime;
    }

    private void copyPoint(int from, int to) {
      write(to, number(from, START), number(from, FIRST));
    }

    private void write(int place, int time, int value) {
      if (place >= 0 && place < times.length && place < values.length) {
        times[place] = time;
        values[place] = value;
      }
    }
  }

  /** The fine buckets of a series, or its coarse ones. */
  private static final class Buckets extends Items {
    private static final int ROOM = 25;

    private final int[] cells = new int[ROOM * BUCKET_NUMBERS];

    int number(int item, int what) {
      int at = item * BUCKET_NUMBERS + what;
      return at >= 0 && at < cells.length ? cells[at] : 0;
    }

    boolean isFull() {
      return amount >= ROOM;
    }

    /** Takes an item into the last bucket, if that has this start, otherwise into a new one. */
    void take(int start, Items source, int item) {
      int last = amount - 1;
      if (last >= 0 && number(last, START) == start) {
        write(last, COUNT, number(last, COUNT) + source.number(item, COUNT));
        write(last, SUM, number(last, SUM) + source.number(item, SUM));
        write(last, MIN, Math.min(number(last, MIN), source.number(item, MIN)));
        write(last, MAX, Math.max(number(last, MAX), source.number(item, MAX)));
        write(last, LAST, source.number(item, LAST));
      } else if (amount < ROOM) {
        write(amount, START, start);
        for (int what = COUNT; what <= LAST; what++) {
          write(amount, what, source.number(item, what));
        }
        amount++;
      }
    }

    void dropFirst() {
      if (amount <= 0) {
        return;
      }
      for (int i = BUCKET_NUMBERS; i < amount * BUCKET_NUMBERS && i < cells.length; i++) {
        cells[i - BUCKET_NUMBERS] = cells[i];
      }
      amount--;
    }

    void copyFrom(Buckets other) {
      for (int i = 0; i < other.amount; i++) {
        for (int what = START; what <= LAST; what++) {
          write(i, what, other.number(i, what));
        }
      }
      amount = other.amount;
    }

    private void write(int item, int what, int number) {
      int at = item * BUCKET_NUMBERS + what;
      if (at >= 0 && at < cells.length) {
        cells[at] = number;
      }
    }
  }

  /** A series: its items are its coarse buckets, its fine ones and its points. */
  private static final class Series {
    private static final int MOST_HALVINGS = 32;

    private final int one;
    private final int other;
    final Points points = new Points();
    final Buckets fine = new Buckets();
    final Buckets coarse = new Buckets();

    Series(int one, int other) {
      this.one = one;
      this.other = other;
    }

    boolean hasLabel(boolean isOther, int label) {
      return (isOther ? other : one) == label;
    }

    Buckets bucketsOf(boolean isCoarse) {
      return isCoarse ? coarse : fine;
    }

    /** Takes a point that is not late. */
    void take(int time, int value, Settings settings) {
      points.add(time, value);
      if (points.openSize() >= settings.span) {
        points.seal();
        if (points.hasTooManySealed()) {
          rollUpFirstBlock(settings);
        }
      }
    }

    void rollUpBy(int now, Settings settings) {
      int dueBlocks = settings.keep == 0 ? 0 : points.blocksBelow(now - settings.keep);
      for (int i = 0; i < dueBlocks; i++) {
        rollUpFirstBlock(settings);
      }
      int longKeep = settings.longKeep;
      int dueFine = longKeep == 0 ? 0 : fineEndingBy(now - longKeep, settings.width);
      for (int i = 0; i < dueFine; i++) {
        rollUpFirstFine(settings);
      }
    }

    private int fineEndingBy(int time, int width) {
      for (int i = 0; i < fine.amount; i++) {
        if (fine.number(i, START) + width > time) {
          return i;
        }
      }
      return fine.amount;
    }

    private void rollUpFirstBlock(Settings settings) {
      int size = points.sizeOf(0);
      for (int i = 0; i < size; i++) {
        fine.take(startFor(points.number(i, START), settings.width), points, i);
        if (fine.isFull()) {
          rollUpFirstFine(settings);
        }
      }
      points.dropFirstBlock();
    }

    private void rollUpFirstFine(Settings settings) {
      int start = startFor(fine.number(0, START), settings.width * settings.fold);
      coarse.take(start, fine, 0);
      fine.dropFirst();
      if (coarse.isFull()) {
        coarse.dropFirst();
      }
    }

    private static int startFor(int time, int width) {
      return width > 0 ? time - time % width : time;
    }

    int itemCount() {
      return coarse.amount + fine.amount + points.amount;
    }

    int ofItem(int item, int what) {
      if (item < coarse.amount) {
        return coarse.number(item, what);
      }
      int behindCoarse = item - coarse.amount;
      if (behindCoarse < fine.amount) {
        return fine.number(behindCoarse, what);
      }
      return points.number(behindCoarse - fine.amount, what);
    }

    /** The first item whose time is not below that; halving works, for no time falls. */
    int firstItemFrom(int time) {
      int low = 0;
      int high = itemCount();
      for (int i = 0; i < MOST_HALVINGS && low < high; i++) {
        int middle = (low + high) / 2;
        if (ofItem(middle, START) < time) {
          low = middle + 1;
        } else {
          high = middle;
        }
      }
      return low;
    }

    /** What the window from one time up to, but without, another one tells. */
    int tell(int from, int to, int what, int fill) {
      int first = firstItemFrom(from);
      int behind = firstItemFrom(to);
      if (first >= behind) {
        return what == TELL_COUNT ? 0 : toldOfGap(from, first, fill);
      }
      switch (what) {
        case TELL_COUNT:
          return total(first, behind, COUNT);
        case TELL_SUM:
          return total(first, behind, SUM);
        case TELL_MIN:
          return least(first, behind);
        case TELL_MAX:
          return greatest(first, behind);
        case TELL_FIRST:
          return ofItem(first, FIRST);
        case TELL_LAST:
          return ofItem(behind - 1, LAST);
        case TELL_MEAN:
          return quotient(total(first, behind, SUM), total(first, behind, COUNT));
        default:
          return greatest(first, behind) - least(first, behind);
      }
    }

    /** What a gap tells that begins at from, with next as the first item behind it. */
    private int toldOfGap(int from, int next, int fill) {
      int ahead = next - 1;
      switch (fill) {
        case FILL_ZERO:
          return 0;
        case FILL_LAST:
          return ahead >= 0 ? ofItem(ahead, LAST) : NOTHING;
        case FILL_LINE:
          return ahead >= 0 && next < itemCount() ? onLine(ahead, next, from) : NOTHING;
        default:
          return NOTHING;
      }
    }

    private int onLine(int ahead, int next, int at) {
      int start = ofItem(ahead, LAST);
      long rise = ofItem(next, FIRST) - start;
      int startTime = ofItem(ahead, START);
      int length = ofItem(next, START) - startTime;
      return length > 0 ? (int) (start + rise * (at - startTime) / length) : NOTHING;
    }

    private int total(int first, int behind, int what) {
      int sum = 0;
      for (int i = first; i < behind; i++) {
        sum += ofItem(i, what);
      }
      return sum;
    }

    private static int quotient(int sum, int count) {
      return count > 0 ? sum / count : NOTHING;
    }

    private int least(int first, int behind) {
      int found = ofItem(first, MIN);
      for (int i = first + 1; i < behind; i++) {
        found = Math.min(found, ofItem(i, MIN));
      }
      return found;
    }

    private int greatest(int first, int behind) {
      int found = ofItem(first, MAX);
      for (int i = first + 1; i < behind; i++) {
        found = Math.max(found, ofItem(i, MAX));
      }
      return found;
    }

    void copyFrom(Series twin) {
      points.copyFrom(twin.points);
      fine.copyFrom(twin.fine);
      coarse.copyFrom(twin.coarse);
    }
  }

  /** A rule, and how far it is on its way to fire. */
  private static final class Rule {
    private final Series chain;
    private final int what;
    private final int length;
    private final int every;
    private final boolean isAbove;
    private final int limit;
    private final int times;
    int state = CALM;
    int timesInRow = 0;

    Rule(Series chain, int what, int length, int every, boolean isAbove, int limit, int times) {
      this.chain = chain;
      this.what = what;
      this.length = length;
      this.every = every;
      this.isAbove = isAbove;
      this.limit = limit;
      this.times = times;
    }

    boolean isDueAt(int now) {
      return every > 0 && now % every == 0;
    }

    int told(int now) {
      return chain.tell(now - length, now, what, FILL_NOTHING);
    }

    /** Goes on by what is told; answers whether that is an event. */
    boolean changesBy(int told) {
      boolean holds = told != NOTHING && (isAbove ? told > limit : told < limit);
      if (state == FIRING) {
        return ceases(holds);
      }
      return begins(holds);
    }

    private boolean ceases(boolean holds) {
      timesInRow = holds ? 0 : timesInRow + 1;
      if (timesInRow < times) {
        return false;
      }
      become(CALM);
      return true;
    }

    private boolean begins(boolean holds) {
      if (!holds) {
        become(CALM);
        return false;
      }
      state = STIRRED;
      timesInRow++;
      if (timesInRow < times) {
        return false;
      }
      become(FIRING);
      return true;
    }

    private void become(int next) {
      state = next;
      timesInRow = 0;
    }

    void copyFrom(Rule twin) {
      state = twin.state;
      timesInRow = twin.timesInRow;
    }
  }

  /** Packs points bit by bit; its words are used again for each block. */
  private static final class Packer {
    private static final int WORD_BITS = 16;
    private static final int WORD_ROOM = 48;

    private final int[] words = new int[WORD_ROOM];
    private int length = 0;
    private int packed = 0;
    private int lastTime = 0;
    private int lastStep = 0;
    private int lastValue = 0;

    /** Answers how many bits the block has; an open one is not packed, and has none. */
    int pack(Points points, int block) {
      if (block >= points.sealedBlocks) {
        return 0;
      }
      int start = points.startOf(block);
      int size = points.sizeOf(block);
      begin(size);
      for (int i = start; i < start + size; i++) {
        add(points.number(i, START), points.number(i, FIRST));
      }
      return length;
    }

    /** Packs the open block as it would be with one more point; answers how many bits it has. */
    int packOpenWith(Points points, int time, int value) {
      int place = points.placeOf(time);
      boolean isTaken = points.isTakenAt(place, time);
      begin(points.openSize() + (isTaken ? 0 : 1));
      for (int i = points.sealedPoints; i < place; i++) {
        add(points.number(i, START), points.number(i, FIRST));
      }
      add(time, value);
      for (int i = isTaken ? place + 1 : place; i < points.amount; i++) {
        add(points.number(i, START), points.number(i, FIRST));
      }
      return length;
    }

    int wordCount() {
      return (length + WORD_BITS - 1) / WORD_BITS;
    }

    int wordAt(int word) {
      return word >= 0 && word < words.length ? words[word] : 0;
    }

    private void begin(int size) {
      Arrays.fill(words, 0);
      length = 0;
      packed = 0;
      write(size, 6);
    }

    private void add(int time, int value) {
      if (packed == 0) {
        write(time, 20);
        write(value + (1 << 20), 21);
        lastStep = 0;
      } else {
        int step = time - lastTime;
        addTime(step - lastStep);
        addValue(value - lastValue);
        lastStep = step;
      }
      lastTime = time;
      lastValue = value;
      packed++;
    }

    private void addTime(int more) {
      if (more == 0) {
        write(0, 1);
      } else if (isIn(more + 31, 0, 63)) {
        write(2, 2);
        write(more + 31, 6);
      } else if (isIn(more + 255, 0, 511)) {
        write(6, 3);
        write(more + 255, 9);
      } else {
        write(7, 3);
        write(more + (1 << 20), 21);
      }
    }

    private void addValue(int more) {
      if (more == 0) {
        write(0, 1);
      } else if (isIn(more + 15, 0, 31)) {
        write(2, 2);
        write(more + 15, 5);
      } else if (isIn(more + 511, 0, 1023)) {
        write(6, 3);
        write(more + 511, 10);
      } else {
        write(7, 3);
        write(more + (1 << 18), 19);
      }
    }

    private void write(int number, int width) {
      for (int i = width - 1; i >= 0; i--) {
        int word = length / WORD_BITS;
        if (word < words.length) {
          words[word] |= (number >> i & 1) << (WORD_BITS - 1 - length % WORD_BITS);
        }
        length++;
      }
    }
  }
}
