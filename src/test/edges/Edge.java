import java.util.ArrayList;
import java.util.List;

/** What the tests of boundary sentences have in common; they extend it for its names. */
abstract class Edge {
  static final long FAR = 4000000000000000000L;
  static final int MIN = Integer.MIN_VALUE;
  static final int MAX = Integer.MAX_VALUE;

  private static String test = "";
  private static int step;
  private static int wrong;

  interface Call {
    long on(TinkerTailor x);
  }

  interface Maker {
    TinkerTailor make();
  }

  static void start(String name) {
    test = name;
    step = 0;
  }

  static int wrongSoFar() {
    return wrong;
  }

  static void fail(String what) {
    wrong++;
    System.out.println(test + ": " + what);
  }

  static void is(long got, long want) {
    step++;
    if (got != want) fail("check " + step + " answered " + got + ", due is " + want);
  }

  /** Answers in their order: got, due, got, due .. */
  static void are(long... pairs) {
    for (int i = 0; i + 1 < pairs.length; i += 2) is(pairs[i], pairs[i + 1]);
  }

  static void feed(TinkerTailor x, String text) {
    for (int i = 0; i < text.length(); i++) x.feed(text.charAt(i));
  }

  static int tell(TinkerTailor x, String text) {
    feed(x, text);
    return x.table();
  }

  /** A new object to which a TABLE is told, 96 letters at most; longer ones as several. */
  static TinkerTailor with(String... texts) {
    TinkerTailor x = new TinkerTailor();
    for (String text : texts) {
      int answer = tell(x, text);
      if (answer < 1) fail("the TABLE " + text + " answered " + answer);
    }
    return x;
  }

  static void row(TinkerTailor x, int... numbers) {
    x.clear();
    for (int n : numbers) x.row(n);
  }

  /** Something of all that there can be: also TURNS to take BACK, an IMAGE, PILES, a ROW, letters, REFUSALS. */
  static TinkerTailor rich() {
    TinkerTailor x = with("r8;r5;w103;e230412;e100300;b20,23;");
    x.pile(3);
    x.pile(7);
    x.image();
    x.turn();
    x.turn();
    x.turn();
    x.move(1, 2);
    x.row(2);
    x.row(4);
    feed(x, "b9,1");
    x.row(-1);
    x.row(100);
    x.rhyme(9, 9);
    x.rhyme(0, 9);
    return x;
  }

  /** A call is refused with a number: it answers that, it alone is counted, and nothing else changes. */
  static void refused(Maker maker, int number, Call call) {
    TinkerTailor x = maker.make();
    TinkerTailor untouched = maker.make();
    is(call.on(x), number);
    alike(x, untouched, number);
  }

  static void refusedLong(Maker maker, int number, Call call) {
    TinkerTailor x = maker.make();
    TinkerTailor untouched = maker.make();
    is(call.on(x), FAR - number);
    alike(x, untouched, number);
  }

  /** A call answers so and leaves all as it is. */
  static void onlyLooks(Maker maker, long answer, Call call) {
    TinkerTailor x = maker.make();
    TinkerTailor untouched = maker.make();
    is(call.on(x), answer);
    alike(x, untouched, 0);
  }

  /** Two objects answer all the same; but of one, if the number is below 0, one more such call has been refused. */
  static void alike(TinkerTailor x, TinkerTailor other, int number) {
    List<Long> seen = everything(x);
    List<Long> want = everything(other);
    if (number < 0) want.set(10 - number, want.get(10 - number) + 1);
    step++;
    if (!seen.equals(want)) fail("check " + step + " left " + seen + ", due is " + want);
  }

  /** All that can be got out of an object, which is spent then: some 200 calls. */
  private static List<Long> everything(TinkerTailor x) {
    List<Long> all = new ArrayList<>();
    for (int what = 0; what <= 18; what++) all.add((long) x.count(what));
    lookAround(x, all);
    for (int what = 0; what < 4; what++) all.add((long) x.wins(what));
    all.add((long) x.planned(0));
    all.add((long) x.planned(1));
    all.add((long) x.both(-1));
    all.add((long) x.rims());
    all.add((long) x.judge());
    takeApart(x, all);
    for (int i = 0; i < 9; i++) {
      all.add((long) x.back());
      all.add((long) x.count(2));
      all.add((long) x.count(5));
      all.add((long) x.count(6));
    }
    all.add((long) x.table());
    all.add((long) x.restore());
    lookAround(x, all);
    takeApart(x, all);
    return all;
  }

  private static void lookAround(TinkerTailor x, List<Long> all) {
    int[] plain = {0, 1, 2, 3, 4, 5, 6, 9, 10, 17, 18};
    for (int what : plain) all.add((long) x.count(what));
    for (int e = 0; e < x.count(0); e++) for (int what = 0; what < 6; what++) all.add((long) x.eater(e, what));
    for (int r = 0; r < x.count(1); r++) for (int what = 0; what < 2; what++) all.add((long) x.rhyme(r, what));
  }

  private static void takeApart(TinkerTailor x, List<Long> all) {
    for (int p = 0; p < x.count(10); p++) all.add((long) x.move(p, 1));
  }
}
