import java.util.function.LongSupplier;

/** For each promise, 1 to 45: ordinary inputs, the edges that the document names, and refusals in their order. */
public final class PromiseTest {
  private static final long FAR = 4000000000000000000L;
  private static int wrong = 0;
  private static int promise = 0;
  private static int step = 0;

  private static void due(long got, long want) {
    step++;
    if (got != want) {
      wrong++;
      System.out.println("promise " + promise + ", check " + step + ": answered " + got + ", due is " + want);
    }
  }

  /** A call is refused with a number: it answers so and is counted; that nothing else changes is looked at by EdgesTest. */
  private static void refused(TinkerTailor x, int number, LongSupplier call) {
    int before = x.count(10 - number);
    long got = call.getAsLong();
    due(got > FAR ? FAR - got : got, number);
    due(x.count(10 - number), before + 1);
  }

  private static long[] seen(TinkerTailor x) {
    long[] all = new long[64];
    for (int i = 0; i <= 18; i++) all[i] = x.count(i);
    int at = 19;
    for (int e = 0; e < x.count(0); e++) for (int what = 0; what < 6; what++) all[at++] = x.eater(e, what);
    for (int r = 0; r < x.count(1); r++) for (int what = 0; what < 2; what++) all[at++] = x.rhyme(r, what);
    return all;
  }

  private static int tell(TinkerTailor x, String text) {
    for (int i = 0; i < text.length(); i++) x.feed(text.charAt(i));
    return x.table();
  }

  private static TinkerTailor with(String text) {
    TinkerTailor x = new TinkerTailor();
    if (tell(x, text) < 0) {
      wrong++;
      System.out.println("promise " + promise + ": a FAULT in " + text);
    }
    return x;
  }

  private static void rows(TinkerTailor x, int... numbers) {
    x.clear();
    for (int n : numbers) x.row(n);
  }

  private static void start(int number) {
    promise = number;
    step = 0;
  }

  public static void main(String[] args) {
    tables();
    rhymesAndEaters();
    changes();
    turns();
    suppers();
    spreads();
    games();
    piles();
    chances();
    rims();
    told();
    backs();
    images();
    System.out.println(wrong == 0 ? "all promises hold" : wrong + " checks failed");
    if (wrong != 0) System.exit(1);
  }

  private static void tables() {
    start(1);
    TinkerTailor x = new TinkerTailor();
    int[] first = {0, 0, 0, 2, 3, 0, 0, 0, 0, 0, 0, 0, 0, 0, 0, 0, 0, 0, 0};
    for (int i = 0; i < first.length; i++) due(x.count(i), first[i]);
    due(x.restore(), -3);
    due(x.back(), -3);

    start(2);
    TinkerTailor f = new TinkerTailor();
    refused(f, -4, () -> f.feed(-1));
    refused(f, -6, () -> f.feed(256));
    for (int i = 1; i <= 96; i++) due(f.feed(i == 1 ? 0 : 255), i);
    refused(f, -6, () -> f.feed(114));
    refused(f, -6, () -> f.feed(256));
    refused(f, -4, () -> f.feed(-1));
    due(f.count(7), 96);

    start(3);
    due(f.table(), -1000);
    due(f.count(7), 0);
    due(f.feed(116), 1);
    TinkerTailor t = new TinkerTailor();
    String[] faults = {"", "x", ";", "r", "rx", "r1", "r1x", "r12", "r123", "r12;x", "r8;r", "e", "e00000", "e00000;", "e0000000",
        "e000000", "b", "b1", "b12", "b123", "b1,", "b1,1", "b1,1;", "b1,11", "b1,111", "b,", "w", "w0", "w00", "w00;", "w000",
        "w0000", "t", "tt", "t1", "r8;;", "R8;", "r8;w000;t", "r99;e", "r 8;"};
    int[] places = {0, 0, 0, 1, 1, 2, 2, 3, 3, 4, 4, 1, 6, 6, 7, 7, 1, 2, 3, 3, 3, 4, 4, 5, 5, 1, 1, 2, 3, 3, 4, 4, 1, 1, 1, 3, 0,
        9, 5, 1};
    for (int i = 0; i < faults.length; i++) {
      TinkerTailor one = new TinkerTailor();
      due(tell(one, faults[i]), -1000 - places[i]);
      due(one.count(0) + one.count(1) + one.count(2) + one.count(7), 0);
    }
    for (String text : new String[] {"r1;", "r0;", "r13;", "r00;", "r99;", "e600000;", "e900000;", "e001200;", "e009900;", "b61,11;",
        "b99,11;", "b0,01;", "b0,51;", "b0,10;", "b0,17;", "w000;", "w400;", "t;"}) {
      due(tell(t, text), -2000);
    }
    due(tell(t, "r2;r5;w105;"), -2006);
    due(tell(t, "r2;r5;w200;"), -2006);
    due(tell(t, "r2;r2;r2;r2;r2;"), -2012);
    due(tell(t, "e000000;e000000;e000000;e000000;e000000;"), -2032);
    due(tell(t, "r5;t;e000000;"), -2003);
    due(tell(t, "b9,11;e000000;t;t;r1;t;"), -2018);
    for (int i = 0; i <= 18; i++) due(t.count(i), i == 3 ? 2 : i == 4 ? 3 : 0);
    due(tell(t, "r02;w001;e592199;b60,46;w001;t;"), -2009);
    due(tell(t, "r12;w011;e591199;b60,46;w010;t;"), 6);
    due(t.rhyme(0, 0), 12);
    due(t.rhyme(0, 1), 10);
    due(t.eater(0, 0), 5);
    due(t.eater(0, 1), 9);
    due(t.eater(0, 2), 11);
    due(t.eater(0, 3), 99);
    due(t.count(2), 57); // 60 leaves 4 by 7: KINDLY 3
    due(t.count(3), 4);
    due(t.count(4), 6);
    due(t.count(17), 0);
    due(tell(t, "r2;r3;r4;"), 3);
    due(tell(t, "r2;"), -2000);
    due(t.count(1), 4);
    due(tell(t, "b0,11;"), 1);
    due(t.count(2), 0);
    due(tell(t, "e000000;t;t;"), 3);
    due(t.count(5), 0);
    due(t.count(12) + t.count(13) + t.count(14) + t.count(16), 0);
    t.turn();
    due(tell(t, "r2;"), -2000);
    due(t.count(17), 1);
    due(tell(t, "w000;"), 1);
    due(t.count(17), 0);
  }

  private static void rhymesAndEaters() {
    start(4);
    TinkerTailor x = with("r8;r12;w111;e230412;");
    due(x.rhyme(0, 0), 8);
    due(x.rhyme(0, 1), 0);
    due(x.rhyme(1, 0), 12);
    due(x.rhyme(1, 1), 11);
    refused(x, -1, () -> x.rhyme(2, 0));
    refused(x, -1, () -> x.rhyme(-1, 7));
    refused(x, -2, () -> x.rhyme(0, 2));
    refused(x, -2, () -> x.rhyme(0, -1));

    start(5);
    due(x.begins(0, 7), 0);
    due(x.begins(0, 3), 7);
    due(x.rhyme(0, 1), 3);
    due(x.begins(1, 11), 11);
    refused(x, -1, () -> x.begins(0, 8));
    refused(x, -1, () -> x.begins(0, -1));
    refused(x, -1, () -> x.begins(2, 0));
    refused(x, -1, () -> x.begins(-1, 0));

    start(6);
    due(x.says(0, 0), -9);
    due(x.says(0, 1), 3);
    due(x.says(0, 5), 7);
    due(x.says(0, 6), 0);
    due(x.says(0, 30000), (3 + 29999) % 8);
    due(x.says(1, 2), 0);
    refused(x, -1, () -> x.says(2, -1));
    refused(x, -1, () -> x.says(-1, 0));
    refused(x, -4, () -> x.says(0, -1));
    refused(x, -6, () -> x.says(0, 30001));

    start(7);
    due(x.eater(0, 0), 2);
    due(x.eater(0, 1), 3);
    due(x.eater(0, 2), 4);
    due(x.eater(0, 3), 12);
    due(x.eater(0, 4), 6);
    due(x.eater(0, 5), 0);
    x.begins(0, 1);
    due(x.eater(0, 4), 4);
    due(x.eater(0, 5), 1);
    refused(x, -1, () -> x.eater(1, 0));
    refused(x, -1, () -> x.eater(-1, 6));
    refused(x, -2, () -> x.eater(0, 6));
    refused(x, -2, () -> x.eater(0, -1));
    TinkerTailor none = with("e000005;");
    due(none.eater(0, 4), -9);
    due(none.eater(0, 5), 0);
    TinkerTailor empty = with("r2;e000000;");
    due(empty.eater(0, 4), -9);
    due(empty.eater(0, 5), 0);
  }

  private static void changes() {
    start(8);
    TinkerTailor x = with("r8;e230412;e000000;");
    due(x.lay(0, 0, 99), 12);
    due(x.lay(0, 0, 0), 99);
    due(x.lay(0, 1, 11), 4);
    due(x.lay(0, 1, 0), 11);
    due(x.eater(0, 3), 0);
    due(x.eater(0, 2), 0);
    refused(x, -1, () -> x.lay(2, 2, -1));
    refused(x, -1, () -> x.lay(-1, 0, 0));
    refused(x, -2, () -> x.lay(0, 2, -1));
    refused(x, -2, () -> x.lay(0, -1, 100));
    refused(x, -4, () -> x.lay(0, 0, -1));
    refused(x, -4, () -> x.lay(0, 1, -1));
    refused(x, -6, () -> x.lay(0, 0, 100));
    refused(x, -6, () -> x.lay(0, 1, 12));

    start(9);
    due(x.kind(0, 5, 9), 23);
    due(x.kind(0, 0, 0), 59);
    due(x.eater(0, 0), 0);
    due(x.eater(0, 1), 0);
    refused(x, -1, () -> x.kind(2, 6, -1));
    refused(x, -1, () -> x.kind(-1, 0, 0));
    refused(x, -2, () -> x.kind(0, 6, -1));
    refused(x, -2, () -> x.kind(0, -1, 10));
    refused(x, -4, () -> x.kind(0, 1, -1));
    refused(x, -6, () -> x.kind(0, 1, 10));

    start(10);
    due(x.set(0, 60), 0);
    due(x.set(0, 0), 60);
    due(x.set(1, 4), 2);
    due(x.set(1, 1), 4);
    due(x.set(2, 6), 3);
    due(x.set(2, 1), 6);
    due(x.set(3, 1), 0);
    due(x.set(3, 0), 1);
    due(x.count(2), 0);
    due(x.count(3), 1);
    due(x.count(4), 1);
    due(x.count(5), 0);
    refused(x, -2, () -> x.set(4, -1));
    refused(x, -2, () -> x.set(-1, 0));
    refused(x, -4, () -> x.set(0, -1));
    refused(x, -4, () -> x.set(1, 0));
    refused(x, -4, () -> x.set(2, 0));
    refused(x, -6, () -> x.set(0, 61));
    refused(x, -6, () -> x.set(1, 5));
    refused(x, -6, () -> x.set(2, 7));
    refused(x, -1, () -> x.set(3, 2));
    refused(x, -1, () -> x.set(3, -1));
    TinkerTailor empty = new TinkerTailor();
    refused(empty, -1, () -> empty.set(3, 0));
  }

  /** What one EATER alone takes. */
  private static int takes(String eater, String bowl) {
    TinkerTailor x = with("r8;" + eater + bowl);
    int fruits = x.count(2);
    int stones = x.count(6);
    int taken = x.turn();
    due(x.count(2), fruits - taken);
    due(x.count(6), Math.min(99, stones + taken));
    return taken;
  }

  private static void turns() {
    start(11);
    TinkerTailor empty = with("r8;b9,11;");
    refused(empty, -3, () -> empty.turn());
    due(takes("e090300;", "b9,23;"), 1);
    due(takes("e000000;", "b0,23;"), 0);
    due(takes("e000099;", "b9,23;"), 1);
    due(takes("e100300;", "b9,23;"), 4);
    due(takes("e100300;", "b4,23;"), 4);
    due(takes("e100300;", "b3,23;"), 0);
    due(takes("e100304;", "b9,23;"), 0); // it has it
    due(takes("e100305;", "b9,23;"), 7);
    due(takes("e100000;", "b9,23;"), 1); // none at all is no word
    due(takes("e100900;", "b60,23;"), 0); // no such word
    due(takes("e100297;", "b60,23;"), 2); // 99 says 2
    due(takes("e100397;", "b60,23;"), 0); // it would be the hundredth
    due(takes("e200000;", "b9,23;"), 1);
    due(takes("e270000;", "b9,23;"), 7);
    due(takes("e270000;", "b5,23;"), 5);
    due(takes("e290095;", "b60,23;"), 9);
    due(takes("e300300;", "b9,23;"), 4);
    due(takes("e300400;", "b60,23;"), 0); // 5, 13 .. are no pairs
    due(takes("e300400;", "b60,33;"), 21);
    due(takes("e300400;", "b20,33;"), 0);
    due(takes("e300404;", "b60,13;"), 1);
    due(takes("e300300;", "b60,43;"), 4);
    due(takes("e300297;", "b60,23;"), 2);
    due(takes("e300297;", "b60,43;"), 0);
    due(takes("e400000;", "b9,23;"), 1);
    due(takes("e400000;", "b11,23;"), 3);
    due(takes("e400000;", "b8,23;"), 1);
    due(takes("e400000;", "b3,23;"), 3);
    due(takes("e400000;", "b0,23;"), 0);
    due(takes("e400000;", "b13,26;"), 6);
    due(takes("e400000;", "b60,21;"), 1);
    due(takes("e500000;", "b11,23;"), 2);
    due(takes("e500000;", "b10,23;"), 1);
    due(takes("e500000;", "b9,23;"), 1);
    due(takes("e500000;", "b8,23;"), 1);
    due(takes("e500000;", "b13,26;"), 5);
    due(takes("e500000;", "b0,26;"), 0);
    TinkerTailor x = with("e000000;e220000;e000000;b5,23;");
    due(x.turn(), 1);
    due(x.count(5), 1);
    due(x.turn(), 2);
    due(x.turn(), 1);
    due(x.count(5), 0);
    due(x.eater(0, 3), 1);
    due(x.eater(1, 3), 2);
    due(x.eater(2, 3), 1);
    due(x.turn(), 1);
    due(x.turn(), 0);
    due(x.count(5), 2);
    due(x.count(17), 5);
    TinkerTailor bare = with("e100300;b9,23;");
    due(bare.turn(), 0);
  }

  private static void suppers() {
    start(12);
    TinkerTailor x = with("r8;e000400;e230400;b10,23;");
    due(x.supper(0), 6); // 1 3 1 3 1 1
    due(x.supper(1), 0);
    due(x.supper(2), 0); // 3 and 7
    x.lay(0, 1, 2);
    x.lay(1, 1, 6);
    due(x.supper(2), 3);
    due(x.count(2), 10);
    due(x.count(6), 0);
    due(x.count(5), 0);
    due(x.count(17), 0);
    refused(x, -2, () -> x.supper(3));
    refused(x, -2, () -> x.supper(-1));
    TinkerTailor empty = new TinkerTailor();
    refused(empty, -3, () -> empty.supper(2));
    refused(empty, -2, () -> empty.supper(3));
    TinkerTailor idle = with("r8;e100300;e100900;b10,23;");
    due(idle.supper(0), 3); // 4, then 0 0: all took none
    idle.lay(0, 0, 4);
    due(idle.supper(0), 2);
    due(idle.supper(1), 10);
    due(idle.supper(2), 1);
    idle.set(0, 0);
    due(idle.supper(0), 0);
    TinkerTailor slow = with("r8;e100900;e100900;e100900;e000000;b60,23;");
    due(slow.supper(0), 100);
    due(slow.supper(1), 35);

    start(13);
    due(slow.behind(3), 25);
    due(slow.behind(0), 0);
    due(x.behind(0), 3);
    due(x.behind(1), 7);
    refused(x, -1, () -> x.behind(2));
    refused(x, -1, () -> x.behind(-1));
    x.lay(1, 0, 95);
    due(x.behind(1), 99);

    start(24);
    TinkerTailor b = with("r8;e420500;b20,33;");
    due(b.best(0), 1); // 20 says 3: all but FREE eat all
    b.lay(0, 1, 3);
    due(b.best(0), 0);
    b.lay(0, 1, 9);
    due(b.best(0), -9);
    b.lay(0, 1, 6);
    due(b.best(0), 1);
    TinkerTailor w = with("r8;e050400;e000000;b10,33;");
    due(w.best(0), 0); // 5 and 5
    w.lay(0, 1, 7);
    due(w.best(0), 1);
    w.lay(0, 0, 0);
    w.lay(0, 1, 6);
    due(w.best(0), 1);
    w.lay(0, 1, 5);
    w.kind(0, 0, 1);
    due(w.best(0), 1);
    due(w.eater(0, 0), 0);
    refused(w, -1, () -> w.best(2));
    refused(w, -1, () -> w.best(-1));
    TinkerTailor none = with("e000003;b5,11;");
    due(none.best(0), -9);

    start(30);
    TinkerTailor s = with("r2;e000000;e000000;b7,23;");
    // seed 0: 12345 draws 0; then -740551042 without its sign draws 21468: 0
    due(s.seeds(0, 1, 0, 0), 0);
    due(s.seeds(0, 1, 0, 1), 0);
    int z = 77;
    int often = 0;
    for (int i = 0; i < 20; i++) {
      z = z * 1103515245 + 12345;
      int fruits = ((z & 0x7fffffff) / 65536) % 61;
      z = z * 1103515245 + 12345;
      int next = ((z & 0x7fffffff) / 65536) % 2;
      int eaten = next == 0 ? (fruits + 1) / 2 : fruits / 2;
      if (eaten % 2 == 1) often++;
    }
    due(s.seeds(0, 20, 77, 0), often);
    due(s.seeds(0, 20, 77, 1), 0);
    TinkerTailor left = with("r2;e100200;");
    int sum = 0;
    z = -5;
    for (int i = 0; i < 3; i++) {
      z = z * 1103515245 + 12345;
      sum += ((z & 0x7fffffff) / 65536) % 61;
      z = z * 1103515245 + 12345;
    }
    due(left.seeds(0, 3, -5, 1), sum);
    refused(s, -1, () -> s.seeds(2, 0, 0, 2));
    refused(s, -1, () -> s.seeds(-1, 1, 0, 0));
    refused(s, -4, () -> s.seeds(0, 0, 0, 2));
    refused(s, -6, () -> s.seeds(0, 21, 0, 2));
    refused(s, -2, () -> s.seeds(0, 20, 0, 2));
    refused(s, -2, () -> s.seeds(0, 1, 0, -1));
  }

  private static void spreads() {
    start(14);
    TinkerTailor x = with("r8;r7;r12;");
    refused(x, -3, () -> x.both(0));
    refused(x, -4, () -> x.both(-2));
    refused(x, -6, () -> x.both(30001));
    rows(x, 3, 99, 3);
    due(x.both(-1), 4);
    due(x.both(3), 0);
    due(x.both(4), 1);
    due(x.both(27), 1);
    due(x.both(28), 2);
    due(x.both(0), 0);
    due(x.both(30000), 1250);
    rows(x, 1, 6, 1);
    due(x.both(-1), 98); // 98 is 2 by 8 and by 12, 0 by 7
    due(x.both(97), 0);
    due(x.both(98 + 168), 2);
    rows(x, 1, 6, 2);
    due(x.both(-1), -9);
    due(x.both(30000), 0);
    rows(x, 8, 99, 99);
    due(x.both(-1), -9);
    rows(x, 99, 99, 99);
    due(x.both(-1), 1);
    due(x.both(30000), 30000);
    due(x.count(8), 3);
    x.begins(1, 6);
    rows(x, 99, 6, 99);
    due(x.both(-1), 1);
    x.row(1);
    refused(x, -3, () -> x.both(-1));
    refused(x, -4, () -> x.both(-2));
    rows(x, 1, 1);
    refused(x, -3, () -> x.both(-1));
    TinkerTailor empty = new TinkerTailor();
    refused(empty, -3, () -> empty.both(-1));
    refused(empty, -6, () -> empty.both(30001));

    start(15);
    TinkerTailor s = with("r3;e000000;e000000;b8,23;");
    due(s.shared(0), 3); // 1 7, 4 4, 7 1
    due(s.shared(1), 1); // 4 4
    s.set(1, 1);
    due(s.shared(1), 3);
    s.set(0, 9);
    due(s.shared(0), 0);
    s.lay(0, 0, 99);
    due(s.shared(0), 0); // 1, 4, 7 there, too, and 1, 4, 7: no nine
    s.set(0, 5);
    due(s.shared(0), 2); // 1 4, 4 1: 100 and 103 STONES
    s.set(0, 0);
    s.lay(0, 0, 1);
    due(s.shared(0), 0);
    s.lay(1, 0, 4);
    due(s.shared(0), 1);
    due(s.shared(1), 1);
    refused(s, -2, () -> s.shared(2));
    refused(s, -2, () -> s.shared(-1));
    TinkerTailor four = with("r2;e000000;e000100;e000000;e000101;b60,23;");
    // two odd (1 ..), one even (2 ..), one odd (from 1 on): halves of 60 - 5 ..
    long ways = 0;
    for (int a = 1; a <= 60; a += 2) for (int b = 2; a + b <= 60; b += 2) for (int c = 1; a + b + c <= 60; c += 2) {
      if ((60 - a - b - c) % 2 == 1) ways++;
    }
    due(four.shared(0), ways);
    TinkerTailor noEater = with("r2;");
    refused(noEater, -3, () -> noEater.shared(0));
    refused(noEater, -2, () -> noEater.shared(2));
    TinkerTailor noRhyme = with("e000000;");
    refused(noRhyme, -3, () -> noRhyme.shared(0));
    due(noRhyme.shared(0), FAR + 3);
    due(noRhyme.shared(5), FAR + 2);

    start(16);
    TinkerTailor c = with("r12;e000500;e000300;e001100;b10,23;");
    due(c.can(0), 2); // 6, 4, 12 needed
    due(c.can(1), 3);
    c.set(0, 9);
    due(c.can(0), 1);
    due(c.can(1), 1);
    c.set(0, 5);
    due(c.can(1), 2);
    c.set(0, 3);
    due(c.can(0), 0);
    due(c.can(1), 0);
    c.set(0, 22);
    due(c.can(0), 3);
    due(c.can(1), 7);
    c.set(0, 23); // all would need 22 or 34
    due(c.can(0), 2);
    due(c.can(1), 3);
    c.lay(1, 1, 5);
    c.set(0, 12);
    due(c.can(1), 3);
    refused(c, -2, () -> c.can(2));
    refused(c, -2, () -> c.can(-1));
    refused(noEater, -3, () -> noEater.can(0));
    refused(noRhyme, -3, () -> noRhyme.can(1));
    refused(noRhyme, -2, () -> noRhyme.can(2));

    start(21);
    TinkerTailor g = with("r8;e000304;e000204;e000700;");
    due(g.gift(), 121); // 0 HAS it; 1 gives 2 one and HAS it, too
    TinkerTailor h = with("r8;e000305;e000202;");
    due(h.gift(), 11); // 4 and 3: 0 gives 1 one
    h.lay(1, 0, 3);
    due(h.gift(), -9); // 1 HAS it now; 4 and 4 are one, too, no more
    TinkerTailor three = with("r8;e000307;e000202;e000299;");
    due(three.gift(), 11); // 7 less 3 would do as well, but 0 to 1 by 1 comes first
    TinkerTailor full = with("r8;e000098;e000204;");
    due(full.gift(), 11); // 97 says 0; 1 to give 0 one would do as well
    full.lay(0, 1, 3);
    due(full.gift(), 101); // 3 says 2
    full.lay(0, 0, 99);
    due(full.gift(), -9); // no room for it
    TinkerTailor alone = with("r8;e000305;");
    due(alone.gift(), -9);
    TinkerTailor nobody = with("r8;");
    due(nobody.gift(), -9);
    refused(noRhyme, -3, () -> noRhyme.gift());
    giftEdges();

    start(35);
    TinkerTailor p = with("r8;e000304;e000204;");
    due(p.pushes(), -9); // eight in all: 4 12 .. and 3 11 .. are seven by eight
    p.lay(1, 0, 3);
    due(p.pushes(), 0);
    p.lay(0, 0, 5);
    p.lay(1, 0, 2);
    due(p.pushes(), 1);
    p.lay(0, 0, 0);
    p.lay(1, 0, 7);
    due(p.pushes(), 4);
    p.lay(0, 0, 0);
    p.lay(1, 0, 0);
    due(p.pushes(), -9);
    TinkerTailor q = with("r2;e000099;e000098;e000099;");
    due(q.pushes(), -9); // odd ones are 99 at most: 295, 297, but not 296
    q.lay(1, 0, 99);
    due(q.pushes(), 0);
    q.lay(1, 1, 1);
    due(q.pushes(), -9);
    TinkerTailor r = with("r12;w005;e000398;e000099;");
    due(r.eater(0, 4), 6);
    due(r.pushes(), -9);
    TinkerTailor most = with("r2;e000099;e000099;e000099;e000099;");
    due(most.pushes(), 0);
    most.lay(0, 0, 98);
    due(most.pushes(), -9);
    due(nobody.pushes(), 0);
    refused(noRhyme, -3, () -> noRhyme.pushes());
  }

  private static void giftEdges() {
    TinkerTailor a = with("r12;e000403;e000910;");
    due(a.gift(), -9); // 10 is 9: 1 HAS it; to bring 0 to 5 takes 2 from it
    a.lay(1, 1, 7);
    due(a.gift(), 102);
    a.lay(0, 0, 2);
    a.lay(1, 1, 6);
    due(a.gift(), 103);
    a.lay(0, 0, 1);
    a.lay(1, 1, 5);
    due(a.gift(), -9); // four are too many
    a.lay(1, 1, 6);
    due(a.gift(), 103); // 7 and 4: 1 HAS it
    TinkerTailor few = with("r12;e000402;e000001;");
    due(few.gift(), -9); // 1 HAS it, and cannot give three
    few.lay(1, 1, 11);
    due(few.gift(), -9);
    TinkerTailor rim = with("r2;e000198;e000105;");
    due(rim.gift(), -9); // both even: 0 HAS it; any odd push changes both
    rim.lay(0, 1, 0);
    due(rim.gift(), 11); // 97 and 6
    rim.lay(0, 0, 99);
    rim.lay(0, 1, 1);
    rim.lay(1, 1, 1);
    due(rim.gift(), 11); // 98 and 6
    TinkerTailor over = with("r12;e000198;e000699;");
    due(over.gift(), -9); // 99 at most, so nobody takes from 1 more than one; 98 less 1 .. 3 cannot go to 1
    TinkerTailor fit = with("r12;e000298;e000199;");
    due(fit.gift(), 101); // 99 is 2, 98 is 1
  }

  private static void games() {
    start(17);
    TinkerTailor x = with("r2;e000000;e000100;b8,23;");
    due(x.sure(0, 0), sureByHand(x, 0));
    TinkerTailor one = with("r8;e000300;b4,23;");
    due(one.sure(0, 0), 1);
    due(one.sure(0, 1), 1);
    one.set(0, 5);
    due(one.sure(0, 0), 0);
    due(one.sure(0, 1), -9);
    one.set(0, 0);
    due(one.sure(0, 1), -9);
    one.lay(0, 0, 4);
    due(one.sure(0, 0), 1);
    due(one.sure(0, 1), -9);
    TinkerTailor two = with("r8;e000200;e000000;b3,23;");
    due(two.sure(0, 0), 1);
    due(two.sure(0, 1), 3);
    due(two.sure(1, 0), 0);
    due(two.sure(1, 1), -9);
    two.lay(1, 1, 0);
    two.set(0, 1);
    two.set(3, 1);
    due(two.sure(1, 1), 1);
    due(two.sure(0, 0), 0);
    TinkerTailor feast = with("r8;e000300;b60,26;");
    due(feast.sure(0, 0), 1); // 60 says 3
    due(feast.sure(0, 1), 1);
    feast.lay(0, 1, 2);
    due(feast.sure(0, 0), 0);
    TinkerTailor above = with("r8;e000399;e000000;b1,23;");
    due(above.sure(0, 0), 1); // the hundredth counts on
    refused(two, -1, () -> two.sure(2, 2));
    refused(two, -1, () -> two.sure(-1, 0));
    refused(two, -2, () -> two.sure(0, 2));
    refused(two, -2, () -> two.sure(0, -1));
    TinkerTailor noRhyme = with("e000000;e000000;b5,11;");
    refused(noRhyme, -3, () -> noRhyme.sure(0, 0));
    refused(noRhyme, -2, () -> noRhyme.sure(0, 2));

    start(18);
    for (int fruits = 1; fruits <= 20; fruits++) {
      noRhyme.set(0, fruits);
      noRhyme.set(2, 4);
      noRhyme.set(3, fruits % 2);
      int me = fruits % 2;
      due(noRhyme.last(0), fruits % 5 != 0 ? me : 1 - me);
      due(noRhyme.last(1), fruits % 5 != 0 ? fruits % 5 : 1);
    }
    refused(noRhyme, -2, () -> noRhyme.last(2));
    refused(noRhyme, -2, () -> noRhyme.last(-1));
    noRhyme.set(0, 0);
    refused(noRhyme, -3, () -> noRhyme.last(0));
    refused(noRhyme, -2, () -> noRhyme.last(2));
    refused(one, -3, () -> one.last(0));
    TinkerTailor three = with("e000000;e000000;e000000;b5,11;");
    refused(three, -3, () -> three.last(0));

    start(42);
    TinkerTailor d = with("r8;e000200;e000000;b4,23;");
    // 3 and then 1, 1 1 2 as well: both, by the least
    due(d.duel(0), 3);
    due(d.duel(1), 1);
    d.set(3, 1);
    // 1 takes 1, then 0 takes 3: both
    due(d.duel(0), 3);
    due(d.duel(1), 1);
    d.set(0, 0);
    due(d.duel(0), 0);
    due(d.duel(1), 0);
    d.lay(0, 0, 3);
    due(d.duel(0), 1);
    TinkerTailor hinder = with("r8;e000900;e000000;b2,22;");
    due(hinder.duel(0), 0); // 0 never HAS it, and takes 2 so that 1 has none
    due(hinder.duel(1), 2);
    TinkerTailor over = with("r8;e000399;e000900;b1,22;");
    due(over.duel(0), 1);
    refused(d, -2, () -> d.duel(2));
    refused(d, -2, () -> d.duel(-1));
    refused(one, -3, () -> one.duel(0));
    refused(noRhyme, -3, () -> noRhyme.duel(1));
    refused(noRhyme, -2, () -> noRhyme.duel(2));
    TinkerTailor many = with("r2;e000000;e000000;e000000;b5,11;");
    refused(many, -3, () -> many.duel(0));

    start(38);
    TinkerTailor s = with("r12;e000700;e000000;b20,23;");
    // three own TURNS of 0 .. 3, the other takes 1 each: 8 of 9 by 2 3 3
    due(s.scheme(0), 2);
    s.lay(0, 1, 8);
    due(s.scheme(0), 3);
    s.lay(0, 1, 9);
    due(s.scheme(0), -9);
    s.lay(0, 1, 2);
    due(s.scheme(0), 0); // 0 0 3
    s.set(3, 1);
    due(s.scheme(0), 0);
    s.set(0, 1);
    s.lay(0, 0, 3);
    due(s.scheme(0), 0); // no TURN, and it HAS it
    s.lay(0, 0, 2);
    due(s.scheme(0), -9);
    s.set(3, 0);
    due(s.scheme(0), 1);
    s.set(0, 0);
    due(s.scheme(0), -9);
    TinkerTailor lone = with("r12;e001100;b60,12;");
    due(lone.scheme(0), 2); // six TURNS of 2
    lone.set(2, 1);
    due(lone.scheme(0), -9);
    lone.lay(0, 0, 6);
    due(lone.scheme(0), 1);
    lone.lay(0, 1, 2);
    lone.lay(0, 0, 97);
    due(lone.scheme(0), 0); // 99 says 2
    lone.lay(0, 1, 3);
    due(lone.scheme(0), -9); // what is more is lost
    due(lone.count(6), 97);
    due(lone.count(2), 60);
    TinkerTailor tight = with("r12;e000300;e030000;b5,23;");
    due(tight.scheme(0), 1); // 1 and 3; behind 0 only 3 come
    tight.kind(1, 2, 4);
    due(tight.scheme(0), -9); // the other takes 4
    tight.lay(0, 1, 2);
    due(tight.scheme(0), 3);
    refused(s, -1, () -> s.scheme(2));
    refused(s, -1, () -> s.scheme(-1));
    refused(noRhyme, -3, () -> noRhyme.scheme(0));
    refused(noRhyme, -1, () -> noRhyme.scheme(2));
  }

  /** By trying all: can one have its wish, whatever the others do. */
  private static int sureByHand(TinkerTailor x, int one) {
    return sureByHand(x, one, x.count(2), x.count(5), x.eater(one, 3)) ? 1 : 0;
  }

  private static boolean sureByHand(TinkerTailor x, int one, int left, int who, int stones) {
    if (left == 0) return x.says(0, stones) == x.eater(one, 2);
    int then = (who + 1) % x.count(0);
    for (int k = 1; k <= Math.min(left, x.count(4)); k++) {
      boolean good = sureByHand(x, one, left - k, then, who == one ? stones + k : stones);
      if (good == (who == one)) return good;
    }
    return who != one;
  }

  private static void piles() {
    start(39);
    TinkerTailor x = new TinkerTailor();
    refused(x, -4, () -> x.pile(-1));
    refused(x, -6, () -> x.pile(13));
    due(x.pile(12), 0);
    due(x.pile(0), 1);
    due(x.pile(3), 2);
    due(x.pile(5), 3);
    refused(x, -6, () -> x.pile(0));
    refused(x, -4, () -> x.pile(-1));
    due(x.count(10), 4);
    due(x.count(18), 20);

    start(40);
    due(x.move(0, 3), 9);
    due(x.move(2, 3), 0);
    due(x.move(3, 1), 4);
    refused(x, -1, () -> x.move(4, 0));
    refused(x, -1, () -> x.move(-1, 1));
    refused(x, -4, () -> x.move(0, 0));
    refused(x, -6, () -> x.move(0, 4));
    refused(x, -6, () -> x.move(2, 1));
    due(x.count(18), 13);
    due(x.count(10), 4);

    start(41);
    TinkerTailor w = new TinkerTailor();
    due(w.wins(0), 0);
    due(w.wins(1), 1);
    due(w.wins(2), -9);
    due(w.wins(3), -9);
    w.pile(5);
    due(w.wins(0), 1);
    due(w.wins(2), 1);
    due(w.wins(1), 0); // 5 is 1 by 4
    due(w.wins(3), -9);
    w.pile(1);
    due(w.wins(0), 0);
    due(w.wins(2), -9);
    due(w.wins(1), 1);
    due(w.wins(3), 1);
    w.set(2, 6);
    due(w.wins(0), 1);
    due(w.wins(2), 4);
    due(w.wins(3), 5);
    w.pile(6);
    due(w.wins(2), 22); // 5 1 6 is 2: 6 to 4
    refused(w, -2, () -> w.wins(4));
    refused(w, -2, () -> w.wins(-1));
    TinkerTailor late = new TinkerTailor();
    late.pile(0);
    late.pile(0);
    late.pile(2);
    due(late.wins(2), 22);
    due(late.wins(3), 21);
    due(late.move(2, 2), 0);
    due(late.wins(0), 0);
    due(late.wins(1), 1);
  }

  private static void chances() {
    start(19);
    TinkerTailor x = with("r2;e000000;");
    due(x.spoons(0, 2, 0, 1, 0, 0), 1); // 1 of 0 1 1 2 is odd, by two ways of four
    due(x.spoons(0, 2, 0, 1, 0, 1), 2);
    due(x.spoons(0, 2, 0, 1, 1, 0), 1);
    due(x.spoons(0, 2, 0, 1, 1, 1), 4);
    due(x.spoons(0, 2, 0, 1, 12, 0), 1);
    due(x.spoons(0, 2, 0, 1, 12, 1), 4);
    due(x.spoons(0, 20, 0, 9, 12, 1), 1048576);
    due(x.spoons(0, 0, 3, 4, 12, 0), 1);
    due(x.spoons(0, 0, 3, 4, 12, 1), 1);
    due(x.spoons(0, 3, 5, 5, 0, 0), 1);
    due(x.spoons(0, 3, 5, 5, 0, 1), 1);
    due(x.spoons(0, 3, 5, 5, 11, 0), 0);
    due(x.spoons(0, 3, 5, 5, 11, 1), 1);
    due(x.spoons(0, 5, 2, 3, 0, 0), 1);
    due(x.spoons(0, 5, 2, 3, 0, 1), 2);
    x.lay(0, 0, 99);
    due(x.spoons(0, 1, 1, 1, 1, 0), 1); // a hundred counts on
    due(x.spoons(0, 1, 1, 3, 12, 0), 0);
    TinkerTailor three = with("r3;e000001;");
    due(three.spoons(0, 4, 1, 2, 0, 0), 3); // 1 and 4 .. 8: 6 says.. 7 by six ways of sixteen
    due(three.spoons(0, 4, 1, 2, 0, 1), 8);
    refused(x, -1, () -> x.spoons(1, -1, 0, 0, 0, 0));
    refused(x, -1, () -> x.spoons(-1, 0, 0, 0, 0, 0));
    refused(x, -1, () -> x.spoons(0, -1, 0, 0, 13, 0));
    refused(x, -1, () -> x.spoons(0, 0, 0, 0, -1, 0));
    refused(x, -4, () -> x.spoons(0, -1, 10, 0, 0, 2));
    refused(x, -4, () -> x.spoons(0, 21, -1, 0, 0, 2));
    refused(x, -4, () -> x.spoons(0, 21, 0, -1, 0, 2));
    refused(x, -6, () -> x.spoons(0, 21, 0, 0, 0, 2));
    refused(x, -6, () -> x.spoons(0, 0, 10, 0, 0, 2));
    refused(x, -6, () -> x.spoons(0, 0, 0, 10, 0, 2));
    refused(x, -2, () -> x.spoons(0, 0, 0, 0, 0, 2));
    refused(x, -2, () -> x.spoons(0, 0, 0, 0, 0, -1));
    TinkerTailor noRhyme = with("e000000;");
    refused(noRhyme, -3, () -> noRhyme.spoons(0, 0, 0, 0, 12, 0));
    refused(noRhyme, -2, () -> noRhyme.spoons(0, 0, 0, 0, 12, 2));
    due(noRhyme.spoons(0, 21, 0, 0, 0, 0), FAR + 6);

    start(22);
    TinkerTailor p = with("r4;e000200;");
    refused(p, -3, () -> p.petals(0));
    rows(p, 1, 2, 3, 4, 0, 0, 0, 0, 0, 0, 0, 0);
    due(p.petals(0), 3); // with 3 the fourth says 2
    rows(p, 0, 5, 0, 0, 5, 0, 0, 0, 0, 0, 0, 0);
    due(p.petals(0), 1); // the second: 1; the fifth (as the first): 2
    rows(p, 9, 0, 0, 9, 0, 0, 0, 0, 0, 0, 9, 0);
    due(p.petals(0), 0); // the third and eleventh: 0
    due(p.count(8), 12);
    due(p.rhyme(0, 1), 0);

    start(23);
    due(p.petal(0, 0), 1);
    due(p.petal(0, 1), 3);
    rows(p, 9, 0, 0, 9, 0, 0, 9, 0, 0, 0, 9, 0);
    due(p.petals(0), 0);
    due(p.petal(0, 0), 1);
    due(p.petal(0, 1), 2);
    rows(p, 0, 0, 0, 0, 0, 0, 0, 0, 0, 0, 0, 0);
    due(p.petals(0), 0);
    due(p.petal(0, 0), 0);
    due(p.petal(0, 1), 1);
    p.lay(0, 1, 4);
    rows(p, 9, 1, 1, 1, 1, 1, 1, 1, 1, 1, 1, 1);
    due(p.petals(0), 0);
    due(p.petal(0, 0), 0);
    due(p.petal(0, 1), 1);
    refused(p, -1, () -> p.petals(1));
    refused(p, -1, () -> p.petals(-1));
    refused(p, -1, () -> p.petal(1, 2));
    refused(p, -2, () -> p.petal(0, 2));
    refused(p, -2, () -> p.petal(0, -1));
    rows(p, 1, 2, 3, 4, 5, 6, 7, 8, 9, 10, 11);
    refused(p, -3, () -> p.petals(0));
    refused(p, -3, () -> p.petal(0, 2));
    refused(p, -1, () -> p.petal(1, 0));
    rows(noRhyme, 1, 2, 3, 4, 5, 6, 7, 8, 9, 10, 11, 12);
    refused(noRhyme, -3, () -> noRhyme.petals(0));
    refused(noRhyme, -3, () -> noRhyme.petal(0, 0));

    start(36);
    TinkerTailor u = with("r8;r5;w103;");
    due(u.unknown(0, 20, 3, 0), 3); // 4 12 20
    due(u.unknown(0, 20, 3, 1), 20);
    due(u.unknown(0, 16, 0, 0), 1);
    due(u.unknown(0, 16, 0, 1), 8);
    due(u.unknown(0, 3, 7, 0), 0);
    due(u.unknown(0, 3, 7, 1), 1);
    due(u.unknown(1, 1, 3, 0), 1);
    due(u.unknown(1, 1, 3, 1), 1);
    due(u.unknown(1, 999, 2, 0), 199);
    due(u.unknown(1, 999, 2, 1), 999);
    refused(u, -1, () -> u.unknown(2, 0, 0, 0));
    refused(u, -1, () -> u.unknown(-1, 1, 0, 0));
    refused(u, -1, () -> u.unknown(1, 0, 5, 0));
    refused(u, -1, () -> u.unknown(1, 1, -1, 0));
    refused(u, -4, () -> u.unknown(0, 0, 0, 2));
    refused(u, -6, () -> u.unknown(0, 1000, 0, 2));
    refused(u, -2, () -> u.unknown(0, 999, 0, 2));
    refused(u, -2, () -> u.unknown(0, 1, 0, -1));
  }

  private static void rims() {
    start(20);
    TinkerTailor x = with("r8;e000004;e000104;e000006;");
    // 4 says 3; by 3: 0, 0, 2; by 2: 1 1 1; by 5: 3 3 0
    due(x.fair(0), 2);
    due(x.fair(1), 1);
    x.lay(1, 1, 0);
    due(x.fair(0), 3);
    due(x.fair(1), 2);
    x.begins(0, 5);
    // by 2 (1): 0 0 0 as they are even
    due(x.fair(0), 2);
    due(x.fair(1), 3);
    due(x.rhyme(0, 0), 8);
    refused(x, -2, () -> x.fair(2));
    refused(x, -2, () -> x.fair(-1));
    TinkerTailor noRhyme = with("e000505;");
    refused(noRhyme, -3, () -> noRhyme.fair(0));
    refused(noRhyme, -2, () -> noRhyme.fair(2));
    TinkerTailor nobody = with("r8;");
    due(nobody.fair(0), 2);
    due(nobody.fair(1), 0);
    TinkerTailor long12 = with("r12;e001112;");
    due(long12.fair(0), 12);

    start(34);
    due(nobody.rhymed(0), 200);
    due(nobody.rhymed(1), 0);
    due(x.rhymed(0), 201);
    due(x.rhymed(1), 3);
    due(long12.rhymed(0), 1200);
    long12.lay(0, 0, 1);
    due(long12.rhymed(0), 1211);
    due(noRhyme.rhymed(0), 601); // 5 stones say 5 by 6 from 1 on
    due(noRhyme.rhymed(1), 1);
    refused(x, -2, () -> x.rhymed(2));
    refused(x, -2, () -> x.rhymed(-1));

    start(25);
    TinkerTailor r = with("e000000;e000000;b3,23;");
    refused(r, -3, () -> r.rims());
    rows(r, 2, 1);
    due(r.rims(), 1);
    rows(r, 1, 2);
    due(r.rims(), 2);
    r.set(0, 4);
    rows(r, 2, 2);
    due(r.rims(), 3);
    rows(r, 3, 1);
    due(r.rims(), 0);
    due(r.count(8), 2);
    due(r.count(5), 0);
    rows(r, 2, 2, 2);
    refused(r, -3, () -> r.rims());
    TinkerTailor empty = new TinkerTailor();
    refused(empty, -3, () -> empty.rims());

    start(26);
    TinkerTailor w = with("r8;e100000;e000000;b9,23;");
    refused(w, -3, () -> w.wished(0));
    rows(w, 4, 0);
    due(w.wished(0), 8);
    rows(w, 0, 99);
    // 8 .. 11 are no words; the other eats all
    due(w.wished(0), 0xF00);
    rows(w, 99, 9);
    due(w.wished(1), 0);
    rows(w, 99, 8);
    due(w.wished(1), 4095);
    due(w.count(8), 2);
    due(w.eater(0, 2), 0);
    refused(w, -1, () -> w.wished(2));
    refused(w, -1, () -> w.wished(-1));
    rows(w, 1);
    refused(w, -3, () -> w.wished(0));
    refused(w, -1, () -> w.wished(2));
  }

  private static void told() {
    start(27);
    TinkerTailor x = new TinkerTailor();
    refused(x, -4, () -> x.row(-1));
    refused(x, -6, () -> x.row(100));
    for (int i = 1; i <= 12; i++) due(x.row(i == 1 ? 99 : 0), i);
    refused(x, -6, () -> x.row(0));
    refused(x, -4, () -> x.row(-1));
    due(x.count(8), 12);

    start(29);
    due(x.clear(), 12);
    due(x.clear(), 0);
    due(x.row(5), 1);
    due(x.clear(), 1);

    start(28);
    due(x.judge(), -9);
    x.row(0);
    due(x.judge(), 0);
    due(x.count(8), 0);
    TinkerTailor j = with("e000000;e230000;b8,23;");
    rows(j, 1, 3, 1, 3, 0, 0);
    due(j.judge(), -9);
    due(j.count(8), 0);
    due(j.count(2), 8);
    rows(j, 1, 3, 1, 2, 0);
    due(j.judge(), 3);
    rows(j, 2);
    due(j.judge(), 0);
    rows(j, 1, 3, 1, 3, 1);
    due(j.judge(), 4);
    j.set(3, 1);
    rows(j, 3, 1);
    due(j.judge(), -9);

    start(37);
    TinkerTailor p = with("r8;e000400;e000200;b9,23;");
    due(p.planned(0), 0);
    due(p.planned(1), 9);
    rows(p, 5, 3);
    due(p.planned(0), 3);
    due(p.planned(1), 1);
    rows(p, 5, 3, 99, 1);
    due(p.planned(0), 2);
    due(p.planned(1), 0);
    rows(p, 0, 0, 5);
    due(p.planned(0), 1);
    due(p.planned(1), 4);
    due(p.count(8), 3);
    due(p.count(2), 9);
    due(p.count(6), 0);
    p.lay(0, 0, 98);
    p.lay(0, 1, 2);
    rows(p, 9);
    due(p.planned(0), 1); // 99 are held
    refused(p, -2, () -> p.planned(2));
    refused(p, -2, () -> p.planned(-1));
    TinkerTailor empty = new TinkerTailor();
    refused(empty, -3, () -> empty.planned(0));
    refused(empty, -2, () -> empty.planned(2));
  }

  private static void backs() {
    start(31);
    TinkerTailor x = with("r8;e290098;e000000;b60,23;");
    refused(x, -3, () -> x.back());
    x.turn();
    due(x.count(6), 99);
    due(x.count(2), 51);
    due(x.back(), 0);
    due(x.count(6), 98);
    due(x.count(2), 60);
    due(x.count(5), 0);
    refused(x, -3, () -> x.back());
    for (int i = 1; i <= 10; i++) {
      x.turn();
      due(x.count(17), Math.min(i, 8));
    }
    due(x.count(2), 10);
    for (int i = 0; i < 8; i++) due(x.back(), 1 - i % 2);
    due(x.count(2), 50);
    due(x.count(6), 100);
    refused(x, -3, () -> x.back());
    Runnable[] forget = {() -> x.lay(0, 0, 5), () -> x.kind(0, 2, 9), () -> x.set(1, 2), () -> x.set(3, 0), () -> tell(x, "w000;"),
        () -> x.restore()};
    x.image();
    for (Runnable call : forget) {
      x.turn();
      due(x.count(17), 1);
      call.run();
      due(x.count(17), 0);
      due(x.back(), -3);
    }
    x.turn();
    x.lay(0, 0, 100);
    x.kind(0, 6, 0);
    x.set(0, 61);
    tell(x, "w900;");
    tell(x, "w");
    x.begins(0, 1);
    x.image();
    x.pile(3);
    x.move(0, 1);
    x.row(3);
    x.clear();
    x.supper(0);
    due(x.count(17), 1);
    due(x.back() >= 0 ? 1 : 0, 1);
    due(x.rhyme(0, 1), 1);
    due(x.count(18), 2);
    TinkerTailor empty = new TinkerTailor();
    empty.turn();
    empty.restore();
    refused(empty, -3, () -> empty.back());
    TinkerTailor idle = with("e000000;");
    idle.turn();
    due(idle.count(17), 1);
    due(idle.back(), 0);

    start(32);
    due(empty.cycle(), 1);
    due(x.cycle(), 8);
    due(with("r8;r6;").cycle(), 24);
    due(with("r11;r9;r8;r7;").cycle(), 5544);
    due(with("r12;r4;r2;w201;").cycle(), 12);

    start(33);
    TinkerTailor s = with("r8;r6;r5;");
    due(s.same(0, 1), 1);
    s.begins(0, 2);
    due(s.same(0, 1), 5 + 2); // 2 .. 7 by eight and 0 .. 5: at seven both say 0
    due(s.same(1, 0), 7);
    s.begins(1, 1);
    due(s.same(0, 1), -9);
    s.begins(2, 2);
    due(s.same(0, 2), 1);
    refused(s, -1, () -> s.same(0, 0));
    refused(s, -1, () -> s.same(0, 3));
    refused(s, -1, () -> s.same(3, 0));
    refused(s, -1, () -> s.same(-1, 0));
    refused(s, -1, () -> s.same(0, -1));
  }

  private static void images() {
    start(43);
    TinkerTailor x = with("r8;w003;e120304;e000105;b20,34;");
    x.pile(7);
    x.turn();
    due(x.image(), 15);
    long[] then = seen(x);

    start(44);
    TinkerTailor none = new TinkerTailor();
    refused(none, -3, () -> none.restore());
    tell(x, "r5;e000000;b60,11;w000;t;t;t;");
    x.lay(0, 0, 50);
    x.lay(0, 1, 9);
    x.kind(0, 5, 5);
    x.pile(12);
    x.move(0, 1);
    x.feed(114);
    x.row(4);
    x.turn();
    x.behind(7);
    due(x.restore(), 15);
    long[] later = seen(x);
    for (int i = 0; i < then.length; i++) {
      long want = i == 7 || i == 8 || i == 11 ? 1 : i == 17 ? 0 : then[i];
      due(later[i], want);
    }
    due(x.move(0, 4), 3);
    x.set(0, 3);
    due(x.restore(), 15);
    due(x.count(18), 7);
    due(x.back(), -3);
    x.set(0, 4);
    due(x.image(), 4);
    x.set(0, 9);
    due(x.restore(), 4);
    due(x.count(5), 1);

    start(45);
    TinkerTailor c = with("r8;r5;e000304;e000005;e000811;b20,34;");
    c.pile(3);
    c.pile(9);
    c.set(3, 2);
    c.feed(65);
    c.row(1);
    c.row(2);
    c.turn();
    int[] due = {3, 2, 19, 3, 4, 0, 21, 1, 2, 1, 2};
    for (int i = 0; i < due.length; i++) due(c.count(i), due[i]);
    for (int i = 11; i <= 16; i++) due(c.count(i), 0);
    due(c.count(17), 1);
    due(c.count(18), 12);
    due(c.count(19), -9);
    due(c.count(-1), -9);
    due(c.count(Integer.MAX_VALUE), -9);
    due(c.count(Integer.MIN_VALUE), -9);
    c.behind(3);
    c.rhyme(0, 2);
    c.shared(2);
    c.unknown(7, 0, 0, 0);
    c.restore();
    c.feed(-1);
    c.feed(256);
    c.row(100);
    c.row(100);
    int[] counts = {2, 2, 1, 1, 0, 3};
    for (int i = 0; i < 6; i++) due(c.count(11 + i), counts[i]);
  }
}
