/** The ROW, JUDGED, SEEDS, BACK, CYCLE, SAME, RHYMED, PUSHES, UNKNOWN, PLANNED, SCHEME. */
final class Promises27To38 extends Edge {
  private static final String FOUR_EATERS = "e000000;e110101;e220202;e330303;";

  private static TinkerTailor noRhyme() {
    TinkerTailor x = with("e000000;e000000;b9,23;");
    x.turn();
    x.row(1);
    x.row(1);
    return x;
  }

  private static Maker withRow(String text, int... numbers) {
    return () -> {
      TinkerTailor x = with(text);
      for (int n : numbers) x.row(n);
      return x;
    };
  }

  private static TinkerTailor rowOf(int size) {
    TinkerTailor x = rich();
    x.clear();
    for (int i = 0; i < size; i++) x.row(i);
    return x;
  }

  // ---- promise 27

  @Sentence({"A number more of the ROW: how many.", "A ROW of numbers (0 .. 99; 12 at most)"})
  static void promise27_howMany() {
    TinkerTailor x = new TinkerTailor();
    are(x.row(0), 1, x.count(8), 1, x.row(99), 2, x.row(1), 3, x.row(98), 4, x.count(8), 4);
    for (int i = 5; i <= 12; i++) is(x.row(i), i);
    are(x.count(8), 12, x.clear(), 12, x.row(7), 1);
  }

  @Sentence("-4;")
  static void promise27_minus4BelowNone() {
    refused(Edge::rich, -4, x -> x.row(-1));
    refused(Edge::rich, -4, x -> x.row(MIN));
    is(rich().row(0), 3);
  }

  @Sentence("-6 (99; 12, too).")
  static void promise27_minus6Above99() {
    are(rich().row(98), 3, rich().row(99), 3);
    refused(Edge::rich, -6, x -> x.row(100));
    refused(Edge::rich, -6, x -> x.row(MAX));
  }

  @Sentence({"-6 (99; 12, too).", "12 at most"})
  static void promise27_minus6Behind12Numbers() {
    are(rowOf(10).row(1), 11, rowOf(11).row(1), 12);
    refused(() -> rowOf(12), -6, x -> x.row(0));
    refused(() -> rowOf(12), -6, x -> x.row(99));
  }

  @Sentence("-4; -6 (99; 12, too).")
  static void promise27_refusalsInTheirOrder() {
    refused(() -> rowOf(12), -4, x -> x.row(-1));
    refused(() -> rowOf(12), -6, x -> x.row(100));
  }

  // ---- promise 28

  @Sentence({"JUDGED; -9 (whichever it answers, the ROW has none then).", "JUDGED: how many each TURN from now on takes, in mind: the first that is not so"})
  static void promise28_theFirstThatIsNotSo() {
    TinkerTailor x = with("e000000;e230000;b8,23;");
    int[] so = {1, 3, 1, 3, 0, 0, 0, 0, 0, 0, 0, 0};
    row(x, so);
    are(x.judge(), -9, x.count(8), 0, x.count(2), 8, x.count(5), 0, x.count(6), 0, x.count(17), 0);
    for (int place = 0; place < 12; place++) {
      int[] other = so.clone();
      other[place]++;
      row(x, other);
      are(x.judge(), place, x.count(8), 0);
    }
    row(x, 1);
    is(x.judge(), -9);
    row(x, 0);
    is(x.judge(), 0);
    row(x, 1, 3, 1, 2, 1);
    is(x.judge(), 3);
    x.set(3, 1);
    row(x, 3, 1, 3, 1, 0);
    is(x.judge(), -9);
    row(x, 2, 1);
    is(x.judge(), 0);
  }

  @Sentence("-9 (whichever it answers, the ROW has none then)")
  static void promise28_noNumbers() {
    TinkerTailor x = new TinkerTailor();
    are(x.judge(), -9, x.count(8), 0, with("e000000;b9,11;").judge(), -9);
    for (int what = 11; what <= 16; what++) is(x.count(what), 0);
  }

  @Sentence("(nobody is there, too); -9.")
  static void promise28_nobodyIsThere() {
    TinkerTailor x = withRow("r8;b9,23;", 0, 0).make();
    are(x.judge(), 0, x.count(8), 0, x.judge(), -9);
    row(x, 1);
    are(x.judge(), 0, x.count(13), 0);
  }

  // ---- promise 29

  @Sentence("The ROW has none then: how many it had.")
  static void promise29_howManyItHad() {
    for (int size = 0; size <= 12; size++) {
      TinkerTailor x = rowOf(size);
      are(x.clear(), size, x.count(8), 0, x.clear(), 0, x.row(5), 1);
    }
    is(new TinkerTailor().clear(), 0);
  }

  // ---- promise 30

  /** The draws once more, by longs. */
  private static int nextSeed(int z) {
    return (int) ((z * 1103515245L + 12345L) & 0xFFFFFFFFL);
  }

  private static int draw(int z, int n) {
    return (int) (((long) z & 0x7FFFFFFFL) / 65536 % n);
  }

  @Sentence({"SEEDS: how often (what 0), FRUITS (1).", "how often one HAS its WISH; all FRUITS left",
      "SEEDS with a seed z: n SUPPERS (1 .. 20), each with FRUITS a DRAW below 61, NEXT a DRAW below how many EATERS"})
  static void promise30_fruitsAndNextAreDrawn() {
    for (int eaters = 1; eaters <= 4; eaters++) {
      TinkerTailor x = with("r2;" + "e000000;e000000;e000000;e000000;".substring(0, 8 * eaters));
      TinkerTailor idle = with("r2;" + "e100200;e100200;e100200;e100200;".substring(0, 8 * eaters));
      for (int seed : new int[] {0, 1, 77, 4711, -1, -65536, MIN, MAX}) {
        for (int n : new int[] {1, 2, 19, 20}) {
          int z = seed;
          int often = 0;
          int all = 0;
          for (int i = 0; i < n; i++) {
            z = nextSeed(z);
            int fruits = draw(z, 61);
            z = nextSeed(z);
            int next = draw(z, eaters);
            int eaten = 0;
            for (int t = 0; t < fruits; t++) if ((next + t) % eaters == eaters - 1) eaten++;
            if (eaten % 2 == 1) often++;
            all += fruits;
          }
          are(x.seeds(eaters - 1, n, seed, 0), often, x.seeds(0, n, seed, 1), 0);
          are(idle.seeds(0, n, seed, 0), 0, idle.seeds(eaters - 1, n, seed, 1), all);
        }
      }
    }
    onlyLooks(Edge::rich, rich().seeds(1, 20, 5, 0), x -> x.seeds(1, 20, 5, 0));
  }

  @Sentence({"a DRAW below n is (z without its sign's bit, over 65536, cut) modulo n.", "DRAWS: z becomes z times 1103515245 plus 12345 (an int, wrapping)"})
  static void promise30_drawsByHand() {
    TinkerTailor idle = with("r2;e100200;");
    // 0 becomes 12345: 0 over 65536
    is(idle.seeds(0, 1, 0, 1), 0);
    // 1 becomes 1103527590: 16838 over 65536, modulo 61 it is 2
    is(idle.seeds(0, 1, 1, 1), 2);
    // -1 becomes -1103502900: without its sign 1043980748, that is 15929 over 65536, modulo 61 it is 8
    is(idle.seeds(0, 1, -1, 1), 8);
    // 2 becomes -2087924461 (wrapped): without its sign 59559187, 908 over 65536, modulo 61 it is 54
    is(idle.seeds(0, 1, 2, 1), 54);
    // the extremes of an int: their sign's bit alone, and all but it
    is(idle.seeds(0, 1, MIN, 1), 0);
    is(idle.seeds(0, 1, MAX, 1), 8);
  }

  @Sentence("each with FRUITS a DRAW below 61")
  static void promise30_fruitsFromNoneTo60() {
    TinkerTailor idle = with("r2;e100200;");
    int none = 0;
    int sixty = 0;
    while (draw(nextSeed(sixty), 61) != 60) sixty++;
    while (draw(nextSeed(none), 61) != 0) none--;
    are(idle.seeds(0, 1, sixty, 1), 60, idle.seeds(0, 1, none, 1), 0);
    TinkerTailor kept = with("r2;e100200;b33,23;"); // FRUITS that are there do not matter, STONES do
    are(kept.seeds(0, 1, sixty, 1), 60, kept.count(2), 33, with("r2;e100001;").seeds(0, 20, 5, 0), 20);
  }

  @Sentence("-1;")
  static void promise30_minus1NoSuchEater() {
    Maker four = () -> with("r8;" + FOUR_EATERS);
    is(four.make().seeds(3, 1, 0, 1), 0);
    for (int none : new int[] {-1, 4, MIN, MAX}) refused(four, -1, x -> x.seeds(none, 1, 0, 0));
    refused(Edge::rich, -1, x -> x.seeds(2, 1, 0, 0));
    refused(TinkerTailor::new, -1, x -> x.seeds(0, 1, 0, 0));
  }

  @Sentence("-4;")
  static void promise30_minus4NoSupper() {
    for (int none : new int[] {0, -1, MIN}) refused(Edge::rich, -4, x -> x.seeds(0, none, 0, 0));
    is(with("r2;e000200;").seeds(0, 1, 0, 0), 0);
  }

  @Sentence("-6 20;")
  static void promise30_minus6Above20Suppers() {
    for (int none : new int[] {21, 22, MAX}) refused(Edge::rich, -6, x -> x.seeds(0, none, 0, 0));
    are(with("r2;e100001;").seeds(0, 20, 0, 0), 20, with("r2;e100001;").seeds(0, 19, 0, 0), 19);
  }

  @Sentence("-2.")
  static void promise30_minus2NoSuchWhat() {
    for (int none : new int[] {-1, 2, MIN, MAX}) refused(Edge::rich, -2, x -> x.seeds(0, 1, 0, none));
  }

  @Sentence("-1; -4; -6 20; -2.")
  static void promise30_refusalsInTheirOrder() {
    refused(Edge::rich, -1, x -> x.seeds(2, 0, 0, 2));
    refused(Edge::rich, -1, x -> x.seeds(2, 21, 0, 0));
    refused(Edge::rich, -1, x -> x.seeds(-1, 1, 0, -1));
    refused(Edge::rich, -4, x -> x.seeds(0, 0, 0, 2));
    refused(Edge::rich, -6, x -> x.seeds(0, 21, 0, 2));
  }

  // ---- promise 31

  private static TinkerTailor turned(int turns) {
    TinkerTailor x = with("r8;e290000;e000000;e100400;b60,23;");
    for (int i = 0; i < turns; i++) x.turn();
    return x;
  }

  @Sentence({"BACK: who took.", "TURNS that were made (by turn() alone) can be taken BACK, the latest first",
      "FRUITS, NEXT, STONES of who took are as ahead of it."})
  static void promise31_theLatestFirst() {
    TinkerTailor x = turned(7);
    for (int back = 7; back >= 1; back--) {
      is(x.count(17), back);
      is(x.back(), (back - 1) % 3);
      TinkerTailor then = turned(back - 1);
      are(x.count(2), then.count(2), x.count(5), then.count(5));
      for (int e = 0; e < 3; e++) is(x.eater(e, 3), then.eater(e, 3));
    }
    are(x.count(17), 0, x.back(), -3, x.turn(), 9, x.count(17), 1);
  }

  @Sentence("STONES of who took are as ahead of it.")
  static void promise31_stonesThatWereLostAndTurnsThatTookNone() {
    TinkerTailor x = with("e290095;e290099;b20,23;");
    x.turn();
    x.turn();
    are(x.turn(), 2, x.turn(), 0, x.count(6), 198, x.count(17), 4);
    are(x.back(), 1, x.count(5), 1, x.count(2), 0, x.back(), 0, x.count(2), 2, x.eater(0, 3), 99, x.back(), 1, x.count(2), 11);
    are(x.eater(1, 3), 99, x.back(), 0, x.count(2), 20, x.eater(0, 3), 95, x.count(5), 0);
  }

  @Sentence("8 at most (older ones no more;")
  static void promise31_eightAtMost() {
    for (int turns = 7; turns <= 10; turns++) {
      TinkerTailor x = turned(turns);
      int can = Math.min(8, turns);
      is(x.count(17), can);
      for (int i = 1; i <= can; i++) {
        are(x.back(), (turns - i) % 3, x.count(17), can - i);
        TinkerTailor then = turned(turns - i);
        are(x.count(2), then.count(2), x.count(5), then.count(5));
        for (int e = 0; e < 3; e++) is(x.eater(e, 3), then.eater(e, 3));
      }
      is(x.back(), -3);
    }
    TinkerTailor x = turned(9);
    are(x.back(), 2, x.count(17), 7);
    x.turn();
    are(x.count(17), 8);
    x.turn();
    is(x.count(17), 8);
  }

  @Sentence("-3 none.")
  static void promise31_minus3None() {
    refused(TinkerTailor::new, -3, x -> x.back());
    refused(() -> turned(0), -3, x -> x.back());
    refused(() -> {
      TinkerTailor x = turned(1);
      x.back();
      return x;
    }, -3, x -> x.back());
    is(turned(1).back(), 0);
  }

  private static TinkerTailor turnedWithImage() {
    TinkerTailor x = turned(1);
    x.image();
    x.turn();
    return x;
  }

  private static void leavesNone(Call call, long answer) {
    TinkerTailor x = turnedWithImage();
    are(x.count(17), 2, call.on(x), answer, x.count(17), 0, x.back(), -3);
  }

  private static void leavesAll(Call call, long answer) {
    TinkerTailor x = turnedWithImage();
    are(x.count(17), 2, call.on(x), answer, x.count(17), 2, x.back(), 1, x.back(), 0, x.back(), -3);
  }

  @Sentence("lay(), kind(), set(), a TABLE, restore(), where they are not refused, leave none):")
  static void promise31_whatLeavesNone() {
    leavesNone(x -> x.lay(2, 0, 0), 0);
    leavesNone(x -> x.lay(2, 1, 4), 4);
    leavesNone(x -> x.kind(2, 1, 0), 10);
    leavesNone(x -> x.set(0, 50), 50);
    leavesNone(x -> x.set(1, 2), 2);
    leavesNone(x -> x.set(2, 3), 3);
    leavesNone(x -> x.set(3, 2), 2);
    leavesNone(x -> tell(x, "w000;"), 1);
    leavesNone(x -> tell(x, "t;"), 1);
    leavesNone(x -> x.restore(), 51);
  }

  @Sentence("where they are not refused,")
  static void promise31_whatIsRefusedLeavesAll() {
    leavesAll(x -> x.lay(3, 0, 0), -1);
    leavesAll(x -> x.lay(0, 2, 0), -2);
    leavesAll(x -> x.lay(0, 0, -1), -4);
    leavesAll(x -> x.lay(0, 0, 100), -6);
    leavesAll(x -> x.kind(3, 0, 0), -1);
    leavesAll(x -> x.kind(0, 6, 0), -2);
    leavesAll(x -> x.kind(0, 0, -1), -4);
    leavesAll(x -> x.kind(0, 0, 10), -6);
    leavesAll(x -> x.set(4, 0), -2);
    leavesAll(x -> x.set(0, -1), -4);
    leavesAll(x -> x.set(0, 61), -6);
    leavesAll(x -> x.set(3, 3), -1);
    leavesAll(x -> x.table(), -1000);
    leavesAll(x -> tell(x, "t;w900;"), -2002);
    leavesAll(x -> tell(x, "t;t"), -1003);
    TinkerTailor x = turned(2);
    are(x.restore(), -3, x.count(17), 2, x.back(), 1);
  }

  @Sentence("TURNS that were made (by turn() alone)")
  static void promise31_whatElseLeavesAll() {
    leavesAll(x -> x.begins(0, 7), 0);
    leavesAll(x -> x.image(), 50);
    leavesAll(x -> x.feed(116), 1);
    leavesAll(x -> x.pile(3), 0);
    leavesAll(x -> x.row(3), 1);
    leavesAll(x -> x.clear(), 0);
    leavesAll(x -> x.judge(), -9);
    leavesAll(x -> x.supper(1), 0);
    leavesAll(x -> x.behind(2), 5);
    leavesAll(x -> x.best(0), 1);
    leavesAll(x -> x.seeds(0, 1, 0, 1), 0);
    leavesAll(x -> x.planned(1), 50);
    TinkerTailor told = with("e000000;b9,11;t;t;"); // these were not made by turn()
    are(told.count(17), 0, told.back(), -3, told.count(2), 7);
  }

  // ---- promise 32

  @Sentence({"CYCLE (1 without RHYMES).", "CYCLE: the least number of stones behind which all RHYMES say again what they said"})
  static void promise32_cycle() {
    are(new TinkerTailor().cycle(), 1, with("e000000;").cycle(), 1);
    for (int length = 2; length <= 12; length++) is(with("r" + length + ";").cycle(), length);
    are(with("r2;r2;r2;r2;").cycle(), 2, with("r8;r6;").cycle(), 24, with("r12;r6;r4;r3;").cycle(), 12);
    are(with("r11;r9;r8;r7;").cycle(), 5544, with("r12;r11;r7;r5;").cycle(), 4620, with("r10;r4;w103;").cycle(), 20);
    onlyLooks(Edge::rich, 40, x -> x.cycle());
  }

  // ---- promise 33

  @Sentence({"SAME; -9.", "SAME of two RHYMES: the least number (1 or more) to which both say a word of one number; -9."})
  static void promise33_theLeastNumber() {
    TinkerTailor x = with("r8;r6;r5;r2;");
    are(x.same(0, 1), 1, x.same(1, 0), 1, x.same(0, 3), 1);
    x.begins(0, 2); // 2 .. 7 0 and 0 .. 5 0
    are(x.same(0, 1), 7, x.same(1, 0), 7);
    x.begins(0, 1); // one is odd where the other is even
    are(x.same(0, 1), -9, x.same(1, 0), -9, x.same(0, 2), 16); // the 16th: 0 and 0
    x.begins(0, 7);
    x.begins(3, 1); // 7 0 and 1 0
    is(x.same(0, 3), 2);
    onlyLooks(Edge::rich, 33, y -> y.same(0, 1)); // the 33rd: 0 and, of 5 from 3 on, 0
    for (int length = 2; length <= 11; length++) {
      for (int word = 0; word <= length; word++) {
        TinkerTailor two = with("r12;r" + (length + 1) + ";");
        two.begins(1, word);
        is(two.same(0, 1), sameByCounting(12, 0, length + 1, word));
        is(two.same(1, 0), sameByCounting(12, 0, length + 1, word));
      }
    }
  }

  private static int sameByCounting(int length, int word, int otherLength, int otherWord) {
    int one = word;
    int other = otherWord;
    for (int n = 1; n <= length * otherLength; n++) {
      if (one == other) return n;
      one = one + 1 == length ? 0 : one + 1;
      other = other + 1 == otherLength ? 0 : other + 1;
    }
    return -9;
  }

  @Sentence("-1 two RHYMES.")
  static void promise33_minus1NotTwoRhymes() {
    Maker four = () -> with("r8;r6;r5;r2;");
    is(four.make().same(3, 0), 1);
    for (int none : new int[] {-1, 4, MIN, MAX}) {
      refused(four, -1, x -> x.same(0, none));
      refused(four, -1, x -> x.same(none, 0));
      refused(four, -1, x -> x.same(none, none));
    }
    for (int one = 0; one < 4; one++) {
      int told = one;
      refused(four, -1, x -> x.same(told, told));
    }
    refused(Edge::rich, -1, x -> x.same(0, 2));
    refused(Edge::rich, -1, x -> x.same(2, 1));
    refused(TinkerTailor::new, -1, x -> x.same(0, 1));
    refused(() -> with("r8;"), -1, x -> x.same(0, 1));
  }

  // ---- promise 34

  @Sentence({"RHYMED: 100 LENGTH and word (what 0), how many (1).", "RHYMED: of all LENGTHS (2 .. 12) and words it BEGINS with"})
  static void promise34_lengthsAndWords() {
    for (int length = 2; length <= 12; length++) { // a stone says the word it BEGINS with: the last
      int told = length;
      String last = "" + (length - 1) / 10 + (length - 1) % 10;
      onlyLooks(() -> with("r5;e00" + last + "01;"), 100 * told + told - 1, x -> x.rhymed(0));
      is(with("r5;e00" + last + "01;").rhymed(1), 1);
    }
    are(with("r5;e000001;").rhymed(0), 200, with("r5;e000101;").rhymed(0), 201, with("r5;e001112;").rhymed(0), 1200);
  }

  @Sentence("that by which RHYME 0 would have most EATERS their WISH, of several the least 100 LENGTH and word: that; how many.")
  static void promise34_ofSeveralTheLeast() {
    TinkerTailor x = with("r8;e000304;e000203;");
    are(x.rhymed(0), 400, x.rhymed(1), 2, x.lay(1, 1, 0), 2, x.rhymed(0), 200, x.rhymed(1), 1); // 3 say 0 by 2 from 0 on
    are(x.lay(1, 1, 1), 0, x.rhymed(0), 201, x.lay(0, 0, 8), 4, x.lay(1, 1, 2), 1, x.rhymed(0), 400, x.rhymed(1), 2); // 8 and 3: 3 and 2
    TinkerTailor last = with("e001101;e001013;"); // by 12 from 11 on, by 11 from 9 on or by 12 from 10 on
    are(last.rhymed(0), 1109, last.rhymed(1), 1, last.lay(1, 1, 11), 10, last.rhymed(0), 1211, last.rhymed(1), 2);
  }

  @Sentence("RHYMED: of all")
  static void promise34_withoutRhymesAndEaters() {
    are(new TinkerTailor().rhymed(0), 200, new TinkerTailor().rhymed(1), 0, with("r8;").rhymed(0), 200, with("r8;").rhymed(1), 0);
    are(with("e000505;").rhymed(0), 601, with("e000505;").rhymed(1), 1); // as if there were a RHYME 0
    are(with("e000000;e000100;e000200;e000300;").rhymed(0), 200, with("e000000;e000100;e000200;e000300;").rhymed(1), 0);
  }

  @Sentence("-2.")
  static void promise34_minus2NoSuchWhat() {
    for (int none : new int[] {-1, 2, MIN, MAX}) refused(Edge::rich, -2, x -> x.rhymed(none));
    refused(TinkerTailor::new, -2, x -> x.rhymed(2));
  }

  // ---- promise 35

  @Sentence({"PUSHES; -9.", "PUSHES: the fewest pushes of one STONE from one EATER to another by which all HAVE their WISH"})
  static void promise35_theFewestPushes() {
    Maker now = () -> with("r8;e000304;e000203;");
    onlyLooks(now, 0, x -> x.pushes());
    TinkerTailor x = with("r8;e000305;e000202;");
    are(x.pushes(), 1, x.lay(0, 0, 3), 5, x.pushes(), -9, x.lay(1, 0, 4), 2, x.pushes(), 1, x.lay(0, 0, 0), 3, x.lay(1, 0, 7), 4);
    are(x.pushes(), 4, x.lay(0, 0, 7), 0, x.lay(1, 0, 0), 7, x.pushes(), 3, x.lay(0, 0, 15), 7, x.pushes(), 3);
    // 12 and 3, not 4 and 11
    TinkerTailor three = with("r8;e000000;e000107;e000202;");
    are(three.pushes(), -9, three.lay(2, 0, 7), 2, three.pushes(), 4); // 14: of 9 2 3, 1 10 3, 1 2 11 the second
    are(with("r8;").pushes(), 0, with("r8;e000304;").pushes(), 0, with("r8;e000305;").pushes(), -9);
    is(with("r8;e000800;e000101;").pushes(), -9);
    for (int stones = 1; stones <= 99; stones++) { // the last word, and one that it has not
      String told = stones / 10 + "" + stones % 10;
      are(with("r12;e0011" + told + ";").pushes(), stones % 12 == 0 ? 0 : -9, with("r8;e0008" + told + ";").pushes(), -9);
    }
    TinkerTailor gone = with("r8;");
    are(gone.image(), 0, tell(gone, "e000101;"), 1, gone.pushes(), -9, gone.restore(), 0, gone.pushes(), 0); // nobody lacks it
  }

  @Sentence("(99 STONES at most on each in the end); -9.")
  static void promise35_99AtMostInTheEnd() {
    TinkerTailor x = with("r2;e000099;e000098;e000099;"); // odd ones: 297 at most, and odd
    are(x.pushes(), -9, x.lay(1, 0, 99), 98, x.pushes(), 0, x.lay(0, 0, 98), 99, x.pushes(), -9, x.lay(1, 0, 98), 99, x.pushes(), 1);
    TinkerTailor full = with("r12;e000398;e000099;"); // 100 and 97
    are(full.pushes(), -9, full.lay(0, 1, 2), 3, full.pushes(), -9, full.lay(1, 1, 1), 0, full.pushes(), 1); // 99 and 98
    TinkerTailor four = with("r2;e000099;e000099;e000099;e000099;");
    are(four.pushes(), 0, four.lay(3, 0, 97), 99, four.pushes(), 0, four.lay(2, 0, 98), 99, four.pushes(), -9, four.lay(3, 0, 98), 97);
    is(four.pushes(), 1);
    are(with("r8;e000700;e000799;").pushes(), -9, with("r11;e001000;e001099;").pushes(), 11, with("r11;e001000;e001011;").pushes(), -9);
  }

  @Sentence("-3 no RHYMES.")
  static void promise35_minus3NoRhymes() {
    refused(Promises27To38::noRhyme, -3, x -> x.pushes());
    refused(TinkerTailor::new, -3, x -> x.pushes());
    is(with("r8;").pushes(), 0);
  }

  // ---- promise 36

  @Sentence({"UNKNOWN; part 0 above, 1 below the line.", "UNKNOWN: a number of 1 .. n (1 .. 999), each as likely: how likely a RHYME SAYS a told word: a fraction."})
  static void promise36_howLikely() {
    TinkerTailor x = with("r8;r5;w103;");
    are(x.unknown(0, 1, 0, 0), 1, x.unknown(0, 1, 0, 1), 1, x.unknown(0, 1, 1, 0), 0, x.unknown(0, 1, 1, 1), 1);
    are(x.unknown(0, 7, 7, 0), 0, x.unknown(0, 7, 7, 1), 1, x.unknown(0, 8, 7, 0), 1, x.unknown(0, 8, 7, 1), 8);
    are(x.unknown(0, 9, 0, 0), 2, x.unknown(0, 9, 0, 1), 9, x.unknown(0, 16, 0, 0), 1, x.unknown(0, 16, 0, 1), 8);
    are(x.unknown(1, 1, 3, 0), 1, x.unknown(1, 2, 4, 1), 2, x.unknown(1, 3, 0, 1), 3, x.unknown(1, 4, 2, 0), 0, x.unknown(1, 5, 2, 0), 1);
    are(x.unknown(1, 6, 3, 0), 1, x.unknown(1, 6, 3, 1), 3, x.unknown(0, 998, 0, 0), 125, x.unknown(0, 998, 0, 1), 998);
    are(x.unknown(0, 999, 6, 0), 125, x.unknown(0, 999, 7, 0), 124, x.unknown(0, 999, 7, 1), 999);
    onlyLooks(Edge::rich, 3, y -> y.unknown(0, 20, 3, 0));
    onlyLooks(Edge::rich, 20, y -> y.unknown(0, 20, 3, 1));
  }

  @Sentence("Refused as told: -1 (RHYME, a word it has not);")
  static void promise36_minus1NoSuchRhymeNoSuchWord() {
    Maker four = () -> with("r8;r6;r5;r12;");
    are(four.make().unknown(3, 12, 11, 1), 12, four.make().unknown(2, 5, 4, 0), 1);
    for (int none : new int[] {-1, 4, MIN, MAX}) refusedLong(four, -1, x -> x.unknown(none, 1, 0, 0));
    for (int none : new int[] {-1, 12, MIN, MAX}) refusedLong(four, -1, x -> x.unknown(3, 1, none, 0));
    refusedLong(four, -1, x -> x.unknown(0, 1, 8, 0));
    refusedLong(four, -1, x -> x.unknown(2, 1, 5, 1));
    refusedLong(Edge::rich, -1, x -> x.unknown(2, 1, 0, 0));
    refusedLong(TinkerTailor::new, -1, x -> x.unknown(0, 1, 0, 0));
  }

  @Sentence("-4 below 1;")
  static void promise36_minus4Below1() {
    for (int none : new int[] {0, -1, MIN}) refusedLong(Edge::rich, -4, x -> x.unknown(0, none, 0, 0));
    is(rich().unknown(0, 1, 0, 1), 1);
  }

  @Sentence("-6 999;")
  static void promise36_minus6Above999() {
    for (int none : new int[] {1000, 1001, MAX}) refusedLong(Edge::rich, -6, x -> x.unknown(0, none, 0, 0));
    is(rich().unknown(0, 999, 0, 1), 999);
  }

  @Sentence("-2.")
  static void promise36_minus2NoSuchPart() {
    for (int none : new int[] {-1, 2, MIN, MAX}) refusedLong(Edge::rich, -2, x -> x.unknown(0, 1, 0, none));
  }

  @Sentence("Refused as told: -1 (RHYME, a word it has not); -4 below 1; -6 999; -2.")
  static void promise36_refusalsInTheirOrder() {
    refusedLong(Edge::rich, -1, x -> x.unknown(2, 0, 0, 2));
    refusedLong(Edge::rich, -1, x -> x.unknown(0, 1000, 8, 0));
    refusedLong(Edge::rich, -1, x -> x.unknown(0, 0, -1, 0));
    refusedLong(Edge::rich, -1, x -> x.unknown(0, 1, 8, -1));
    refusedLong(Edge::rich, -4, x -> x.unknown(0, 0, 0, 2));
    refusedLong(Edge::rich, -6, x -> x.unknown(0, 1000, 0, 2));
  }

  // ---- promise 37

  @Sentence({"PLANNED by the ROW: who (what 0, bits), FRUITS (1) (it stays).",
      "PLANNED: the ROW tells how many each TURN from now takes", "in mind, one TURN for each: who HAS its WISH then (bits); FRUITS left."})
  static void promise37_oneTurnForEach() {
    String text = "r8;e000400;e000200;b9,23;";
    onlyLooks(withRow(text, 5, 3), 3, x -> x.planned(0));
    onlyLooks(withRow(text, 5, 3), 1, x -> x.planned(1));
    onlyLooks(withRow(text), 0, x -> x.planned(0));
    onlyLooks(withRow(text), 9, x -> x.planned(1));
    onlyLooks(withRow("r8;e000405;e000203;b9,23;"), 3, x -> x.planned(0));
    TinkerTailor x = with(text);
    row(x, 0, 3, 5);
    are(x.planned(0), 3, x.planned(1), 1);
    row(x, 1, 1, 1, 0, 1, 1, 1, 1, 1, 0, 0, 0);
    are(x.planned(0), 3, x.planned(1), 1);
    x.set(3, 1);
    row(x, 3, 5);
    are(x.planned(0), 3, x.count(5), 1, x.count(8), 2);
    TinkerTailor four = with("r8;e000000;e000000;e000000;e000000;b60,23;");
    row(four, 1, 1, 1, 1, 8, 8, 8, 8);
    are(four.planned(0), 15, four.planned(1), 24);
  }

  @Sentence("(no more than FRUITS; 99 held)")
  static void promise37_noMoreThanFruits() {
    TinkerTailor x = with("r8;e000700;e000100;b8,23;");
    row(x, 7);
    are(x.planned(0), 0, x.planned(1), 1);
    row(x, 8);
    are(x.planned(0), 1, x.planned(1), 0);
    row(x, 9);
    are(x.planned(0), 1, x.planned(1), 0);
    row(x, 99);
    are(x.planned(0), 1, x.planned(1), 0);
    row(x, 0, 98, 1);
    are(x.planned(0), 0, x.planned(1), 0);
    row(x, 6, 99, 0);
    are(x.planned(0), 2, x.planned(1), 0);
  }

  @Sentence("99 held)")
  static void promise37_99Held() {
    TinkerTailor x = with("r8;e000296;b9,23;"); // 99 say 2
    row(x, 2);
    is(x.planned(0), 0);
    row(x, 3);
    are(x.planned(0), 1, x.planned(1), 6);
    row(x, 4);
    are(x.planned(0), 1, x.planned(1), 5);
    row(x, 9);
    are(x.planned(0), 1, x.planned(1), 0);
    row(x, 2, 1, 1, 5);
    are(x.planned(0), 1, x.planned(1), 0);
    is(x.eater(0, 3), 96);
  }

  @Sentence("-2;")
  static void promise37_minus2NoSuchWhat() {
    for (int none : new int[] {-1, 2, MIN, MAX}) refused(Edge::rich, -2, x -> x.planned(none));
  }

  @Sentence("-3 nobody is there.")
  static void promise37_minus3NobodyIsThere() {
    refused(TinkerTailor::new, -3, x -> x.planned(0));
    refused(withRow("r8;b9,23;", 1), -3, x -> x.planned(1));
    is(with("e000000;b9,23;").planned(1), 9);
  }

  @Sentence("-2; -3 nobody is there.")
  static void promise37_refusalsInTheirOrder() {
    refused(TinkerTailor::new, -2, x -> x.planned(2));
    refused(TinkerTailor::new, -2, x -> x.planned(-1));
  }

  // ---- promise 38

  @Sentence({"SCHEME; -9.", "SCHEME of one: it takes 0 .. MOST at its TURNS", "whether it can HAVE its WISH then: its first number, the least that does"})
  static void promise38_theLeastFirstNumber() {
    // its TURNS are the first, third and fifth; the other takes 1 each
    Maker some = () -> with("r12;e000700;e000000;b20,23;");
    int[] first = {0, 0, 0, 0, 0, 0, 1, 2, 3, -9, -9, -9}; // STONES 1 .. 12, of which two TURNS bring six
    for (int wish = 0; wish < 12; wish++) {
      TinkerTailor x = some.make();
      x.lay(0, 1, wish);
      is(x.scheme(0), first[wish]);
    }
    onlyLooks(some, 2, x -> x.scheme(0));
    TinkerTailor none = with("r8;e000000;e000000;b20,23;"); // 0 takes none: it has none, so not even its own word
    is(none.scheme(0), 0);
    is(with("r8;e000001;e000000;b20,23;").scheme(0), 0);
  }

  @Sentence("(no more than FRUITS), all others as their KINDS")
  static void promise38_noMoreThanFruitsOthersAsTheirKinds() {
    TinkerTailor x = with("r12;e000300;e030000;b5,23;");
    are(x.scheme(0), 1, x.kind(1, 2, 4), 3, x.scheme(0), -9, x.lay(0, 1, 2), 3, x.scheme(0), 3);
    are(x.set(0, 2), 5, x.scheme(0), -9, x.set(0, 3), 2, x.scheme(0), 3);
    TinkerTailor free = with("r12;e000300;e100400;b9,26;"); // the other takes 5, then none
    are(free.scheme(0), 0, free.lay(0, 1, 4), 3, free.scheme(0), 5, free.set(0, 10), 9, free.scheme(0), 0);
  }

  @Sentence("till no FRUITS are left or 6 TURNS went by")
  static void promise38_sixTurns() {
    TinkerTailor alone = with("r12;e001100;b60,12;"); // twelve by six TURNS of two
    are(alone.scheme(0), 2, alone.lay(0, 0, 1), 0, alone.scheme(0), 1, alone.lay(0, 0, 2), 1, alone.scheme(0), 0);
    are(alone.set(2, 1), 2, alone.lay(0, 0, 5), 2, alone.scheme(0), -9, alone.lay(0, 0, 6), 5, alone.scheme(0), 1);
    are(alone.lay(0, 0, 7), 6, alone.scheme(0), 0);
    TinkerTailor still = with("r12;e000001;b60,11;"); // it HAS it, and twelve more are too many
    are(still.scheme(0), 0, still.lay(0, 1, 11), 0, still.scheme(0), -9);
    are(still.lay(0, 1, 0), 11, still.lay(0, 0, 2), 1, still.scheme(0), -9); // nor can it give one away
    is(with("r12;e000100;e000000;b3,21;").scheme(0), 1); // by the first and by the last FRUIT
    TinkerTailor behindOther = with("r12;e000305;e000000;b60,13;");
    are(behindOther.scheme(0), -9, behindOther.lay(0, 0, 4), 5, behindOther.scheme(0), 0, behindOther.lay(0, 0, 7), 4, behindOther.scheme(0), 3);
    // three EATERS: two TURNS each; four: the first two have two
    TinkerTailor three = with("r12;e000600;e000600;e000600;b60,13;");
    for (int e = 0; e < 3; e++) {
      three.lay(e, 1, 5);
      is(three.scheme(e), 3);
      three.lay(e, 1, 6);
      is(three.scheme(e), -9);
    }
    TinkerTailor four = with("r12;e000500;e000500;e000500;e000500;b60,13;");
    are(four.scheme(0), 3, four.scheme(1), 3, four.scheme(2), -9, four.scheme(3), -9);
    are(four.lay(2, 1, 2), 5, four.scheme(2), 3, four.lay(3, 1, 3), 5, four.scheme(3), -9, four.lay(3, 1, 2), 3, four.scheme(3), 3);
  }

  @Sentence("(0, if it has no TURN); -9.")
  static void promise38_zeroIfItHasNoTurn() {
    TinkerTailor x = with("r8;e000303;e000000;b0,23;");
    are(x.scheme(0), -9, x.lay(0, 0, 4), 3, x.scheme(0), 0, x.set(0, 1), 0, x.set(3, 1), 0, x.scheme(0), 0);
    are(x.lay(0, 0, 3), 4, x.scheme(0), -9, x.set(0, 2), 1, x.scheme(0), 1, x.lay(0, 0, 4), 3, x.scheme(0), 0);
    TinkerTailor last = with("r8;e000303;e000000;b1,23;");
    are(last.scheme(0), 1, last.lay(0, 0, 2), 3, last.scheme(0), -9);
  }

  @Sentence("99 at most: what is more is lost")
  static void promise38_99AtMost() {
    TinkerTailor x = with("r8;e000297;b9,23;"); // 99 say 2, 100 would say 3
    are(x.scheme(0), 0, x.lay(0, 1, 3), 2, x.scheme(0), -9, x.lay(0, 0, 99), 97, x.lay(0, 1, 2), 3, x.scheme(0), 0);
    TinkerTailor two = with("r8;e000298;e000000;b1,23;");
    are(two.scheme(0), 1, two.lay(0, 1, 3), 2, two.scheme(0), -9);
  }

  @Sentence("-1;")
  static void promise38_minus1NoSuchEater() {
    Maker four = () -> with("r8;" + FOUR_EATERS);
    is(four.make().scheme(3), -9);
    for (int none : new int[] {-1, 4, MIN, MAX}) refused(four, -1, x -> x.scheme(none));
    refused(Edge::rich, -1, x -> x.scheme(2));
    refused(() -> with("r8;"), -1, x -> x.scheme(0));
  }

  @Sentence("-3 no RHYMES.")
  static void promise38_minus3NoRhymes() {
    refused(Promises27To38::noRhyme, -3, x -> x.scheme(0));
    refused(Promises27To38::noRhyme, -3, x -> x.scheme(1));
  }

  @Sentence("-1; -3 no RHYMES.")
  static void promise38_refusalsInTheirOrder() {
    refused(Promises27To38::noRhyme, -1, x -> x.scheme(2));
    refused(TinkerTailor::new, -1, x -> x.scheme(0));
  }
}
