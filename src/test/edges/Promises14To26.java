/** BOTH, SHARED, CAN, SURE, LAST, SPOONS, FAIR, GIFT, PETALS, the best KIND, RIMS, WISHED. */
final class Promises14To26 extends Edge {
  private static final String FOUR_EATERS = "e000000;e110101;e220202;e330303;";

  private static TinkerTailor noRhyme() {
    TinkerTailor x = with("e000000;e000000;b9,23;");
    x.turn();
    x.row(1);
    x.row(1);
    return x;
  }

  private static TinkerTailor noEater() {
    TinkerTailor x = with("r8;r5;b9,23;");
    x.row(1);
    x.row(1);
    return x;
  }

  private static Maker withRow(String text, int... numbers) {
    return () -> {
      TinkerTailor x = with(text);
      for (int n : numbers) x.row(n);
      return x;
    };
  }

  // ---- promise 14

  @Sentence({"BOTH: of told words", "BOTH by the ROW: the least (n -1; -9), how many from 1 to n (it stays).", "the least number of stones (1 .. 30000)"})
  static void promise14_theLeastAndHowMany() {
    Maker first = withRow("r8;r7;r12;", 0, 0, 0);
    onlyLooks(first, 1, x -> x.both(-1));
    onlyLooks(first, 0, x -> x.both(0));
    onlyLooks(first, 1, x -> x.both(1));
    onlyLooks(first, 1, x -> x.both(168));
    onlyLooks(first, 2, x -> x.both(169));
    Maker last = withRow("r8;r7;r12;", 7, 6, 11);
    onlyLooks(last, 168, x -> x.both(-1));
    onlyLooks(last, 0, x -> x.both(167));
    onlyLooks(last, 1, x -> x.both(168));
    onlyLooks(last, 1, x -> x.both(335));
    onlyLooks(last, 2, x -> x.both(336));
    onlyLooks(last, 178, x -> x.both(30000)); // 178 times 168 is 29904
    onlyLooks(last, 0, x -> x.both(0));
  }

  @Sentence({"(1 .. 30000) to which each SAYS its word", "how many such there are from 1 to n (0 .. 30000)"})
  static void promise14_theFarthestLeast() {
    TinkerTailor x = withRow("r11;r9;r8;r7;", 10, 8, 7, 6).make();
    are(x.both(-1), 5544, x.both(5543), 0, x.both(5544), 1, x.both(27719), 4, x.both(27720), 5, x.both(29999), 5, x.both(30000), 5);
    TinkerTailor one = withRow("r2;", 1).make();
    are(one.both(-1), 2, one.both(1), 0, one.both(2), 1, one.both(3), 1, one.both(29999), 14999, one.both(30000), 15000);
    one.begins(0, 1);
    are(one.both(-1), 1, one.both(0), 0, one.both(1), 1, one.both(29999), 15000, one.both(30000), 15000);
  }

  @Sentence("of told words (a ROW, one for each RHYME; 99 any)")
  static void promise14_99Any() {
    TinkerTailor x = withRow("r8;r7;", 99, 99).make();
    are(x.both(-1), 1, x.both(0), 0, x.both(1), 1, x.both(29999), 29999, x.both(30000), 30000);
    row(x, 98, 99);
    are(x.both(-1), -9, x.both(30000), 0);
    row(x, 99, 98);
    are(x.both(-1), -9, x.both(30000), 0);
    row(x, 3, 99);
    are(x.both(-1), 4, x.both(12), 2, x.both(11), 1);
    row(x, 99, 6);
    are(x.both(-1), 7, x.both(13), 1, x.both(14), 2);
  }

  @Sentence("-9; how many such")
  static void promise14_minus9NoSuchNumber() {
    TinkerTailor x = withRow("r8;r12;", 7, 11).make();
    are(x.both(-1), 24, x.both(24), 1);
    row(x, 8, 11); // a word that it has not
    are(x.both(-1), -9, x.both(30000), 0, x.both(0), 0);
    row(x, 7, 12);
    are(x.both(-1), -9, x.both(30000), 0);
    row(x, 0, 1); // 1, 9, 17 and 2, 14: one odd, one even
    are(x.both(-1), -9, x.both(30000), 0);
    row(x, 0, 8);
    are(x.both(-1), 9, x.both(9), 1);
  }

  @Sentence("-4 below -1;")
  static void promise14_minus4BelowMinus1() {
    Maker good = withRow("r8;", 3);
    is(good.make().both(-1), 4);
    refused(good, -4, x -> x.both(-2));
    refused(good, -4, x -> x.both(MIN));
  }

  @Sentence("-6 30000;")
  static void promise14_minus6Above30000() {
    Maker good = withRow("r8;", 3);
    is(good.make().both(30000), 3750);
    refused(good, -6, x -> x.both(30001));
    refused(good, -6, x -> x.both(MAX));
  }

  @Sentence("-3 the ROW has not as many as RHYMES,")
  static void promise14_minus3NotAsManyAsRhymes() {
    is(withRow("r8;r5;", 0, 0).make().both(-1), 1);
    for (int n : new int[] {-1, 0, 30000}) {
      refused(withRow("r8;r5;"), -3, x -> x.both(n));
      refused(withRow("r8;r5;", 0), -3, x -> x.both(n));
      refused(withRow("r8;r5;", 0, 0, 0), -3, x -> x.both(n));
    }
    is(withRow("r8;r5;r4;r3;", 0, 0, 0, 0).make().both(-1), 1);
    refused(withRow("r8;r5;r4;r3;", 0, 0, 0), -3, x -> x.both(-1));
    refused(withRow("r8;r5;r4;r3;", 0, 0, 0, 0, 0), -3, x -> x.both(-1));
  }

  @Sentence("no RHYMES.")
  static void promise14_minus3NoRhymes() {
    refused(TinkerTailor::new, -3, x -> x.both(-1));
    refused(withRow("e000000;"), -3, x -> x.both(0));
    refused(withRow("e000000;", 1), -3, x -> x.both(30000));
  }

  @Sentence({"-4 below -1;", "-6 30000;"})
  static void promise14_refusalsInTheirOrder() {
    refused(TinkerTailor::new, -4, x -> x.both(-2));
    refused(TinkerTailor::new, -6, x -> x.both(30001));
  }

  // ---- promise 15

  @Sentence({"SHARED: ways (what 0), in BUNCHES (1).", "SHARED: in how many ways all FRUITS can be eaten (each EATER 0 or more) so that each HAS its WISH"})
  static void promise15_allFruitsEachZeroOrMore() {
    TinkerTailor one = with("r8;e000300;b4,23;");
    are(one.shared(0), 1, one.set(0, 3), 4, one.shared(0), 0, one.set(0, 5), 3, one.shared(0), 0, one.set(0, 12), 5, one.shared(0), 1);
    TinkerTailor none = with("r8;e000304;e000508;b0,23;");
    are(none.shared(0), 0, none.lay(1, 0, 6), 8, none.shared(0), 1, none.shared(1), 1);
    onlyLooks(() -> with("r3;e000000;e000001;b7,23;"), 3, x -> x.shared(0)); // 7 0, 4 3, 1 6
    TinkerTailor four = with("r2;e000000;e000000;e000000;e000000;b60,21;");
    are(four.shared(0), 4495, four.set(0, 4), 60, four.shared(0), 1, four.set(0, 3), 4, four.shared(0), 0); // of 28 twos to four: 31 over 3
    are(four.set(0, 5), 3, four.shared(0), 0, four.set(0, 6), 5, four.shared(0), 4);
    is(with("r8;e000800;b60,23;").shared(0), 0);
  }

  @Sentence("(STONES above 99 count on, too)")
  static void promise15_stonesAbove99CountOn() {
    TinkerTailor x = with("r8;e000399;b1,11;");
    are(x.shared(0), 1, x.shared(1), 1, x.set(0, 2), 1, x.shared(0), 0, x.set(0, 9), 2, x.shared(0), 1);
    x.set(0, 0);
    are(x.shared(0), 0, x.lay(0, 1, 2), 3, x.shared(0), 1);
  }

  @Sentence("in BUNCHES (each a multiple of BUNCH) likewise")
  static void promise15_eachAMultipleOfBunch() {
    TinkerTailor x = with("r3;e000000;e000000;b8,13;");
    are(x.shared(0), 3, x.shared(1), 3, x.set(1, 2), 1, x.shared(1), 1, x.set(1, 3), 2, x.shared(1), 0, x.set(1, 4), 3, x.shared(1), 1);
    is(x.shared(0), 3);
    x.set(0, 7);
    is(x.shared(1), 0);
    TinkerTailor few = with("r8;e000304;b3,43;");
    are(few.shared(1), 0, few.set(0, 4), 3, few.shared(1), 0, few.set(0, 8), 4, few.shared(1), 1, few.set(0, 0), 8, few.shared(1), 1);
    TinkerTailor four = with("r2;e000100;e000100;e000100;e000100;b60,43;");
    are(four.shared(0), 3654, four.shared(1), 364, four.set(1, 2), 4, four.shared(1), 3654, four.set(1, 3), 2, four.shared(1), 84);
  }

  @Sentence("Refused as told: -2;")
  static void promise15_minus2NoSuchWhat() {
    for (int none : new int[] {-1, 2, MIN, MAX}) refusedLong(Edge::rich, -2, x -> x.shared(none));
  }

  @Sentence({"-3 no EATERS, no RHYMES.", "Of longs 4000000000000000000 less them (-1 as 4000000000000000001)."})
  static void promise15_minus3NoEatersNoRhymes() {
    for (int what = 0; what < 2; what++) {
      int told = what;
      refusedLong(Promises14To26::noEater, -3, x -> x.shared(told));
      refusedLong(Promises14To26::noRhyme, -3, x -> x.shared(told));
      refusedLong(TinkerTailor::new, -3, x -> x.shared(told));
    }
    is(noRhyme().shared(0), 4000000000000000003L);
    is(with("r8;e000000;b1,23;").shared(0), 1);
  }

  @Sentence("Refused as told: -2; -3")
  static void promise15_refusalsInTheirOrder() {
    refusedLong(TinkerTailor::new, -2, x -> x.shared(2));
    refusedLong(TinkerTailor::new, -2, x -> x.shared(-1));
  }

  // ---- promise 16

  @Sentence({"CAN: how many (what 0), the set (1).", "CAN: the greatest number of EATERS that can have it so (the others any)"})
  static void promise16_theGreatestNumber() {
    TinkerTailor four = with("r8;e000000;e000000;e000000;e000000;b0,23;");
    int[] many = {0, 1, 2, 3, 4, 3, 3, 3, 3, 3, 3, 3, 4, 3};
    int[] set = {0, 1, 3, 7, 15, 7, 7, 7, 7, 7, 7, 7, 15, 7};
    for (int fruits = 0; fruits < many.length; fruits++) {
      four.set(0, fruits);
      are(four.can(0), many[fruits], four.can(1), set[fruits]);
    }
    TinkerTailor one = with("r8;e000300;b4,23;");
    are(one.can(0), 1, one.can(1), 1, one.set(0, 5), 4, one.can(0), 0, one.can(1), 0, one.set(0, 3), 5, one.can(0), 0);
    are(one.set(0, 12), 3, one.can(0), 1);
    onlyLooks(() -> with("r8;e000300;e000200;b3,23;"), 2, x -> x.can(1));
  }

  @Sentence("the first such set (the least bits).")
  static void promise16_theLeastBits() {
    TinkerTailor x = with("r12;e001100;e000400;e000400;e000400;b5,23;");
    are(x.can(0), 1, x.can(1), 2, x.set(0, 10), 5, x.can(0), 2, x.can(1), 6, x.set(0, 14), 10, x.can(0), 2, x.can(1), 6);
    are(x.set(0, 15), 14, x.can(0), 3, x.can(1), 14, x.set(0, 12), 15, x.can(0), 2, x.set(0, 17), 12, x.can(0), 3, x.can(1), 14);
    x.lay(3, 1, 0); // 12 5 5 1
    are(x.set(0, 6), 17, x.can(0), 2, x.can(1), 10, x.set(0, 4), 6, x.can(1), 8, x.set(0, 60), 4, x.can(0), 3, x.can(1), 7);
    x.lay(0, 1, 1); // 2 5 5 1: 13, and 12s
    are(x.set(0, 13), 60, x.can(0), 4, x.can(1), 15, x.set(0, 14), 13, x.can(0), 3, x.can(1), 7, x.set(0, 37), 14, x.can(1), 15);
  }

  @Sentence("that can have it so (the others any)")
  static void promise16_noFruitsAndAbove99() {
    TinkerTailor x = with("r8;e000304;e000305;b0,23;");
    are(x.can(0), 1, x.can(1), 1, x.lay(1, 0, 4), 5, x.can(0), 2, x.can(1), 3, x.lay(0, 0, 0), 4, x.can(1), 2);
    TinkerTailor far = with("r8;e000399;b1,23;"); // 100 says 3
    TinkerTailor less = with("r8;e000305;e000305;e000305;b0,23;"); // with one less they would have it
    are(less.can(0), 0, less.can(1), 0, less.set(0, 6), 0, less.can(0), 0, less.set(0, 7), 6, less.can(0), 1, less.can(1), 1);
    are(far.can(0), 1, far.set(0, 0), 1, far.can(0), 0, tell(far, "e000899;"), 1, far.set(0, 1), 0, far.can(1), 1);
  }

  @Sentence("-2")
  static void promise16_minus2NoSuchWhat() {
    for (int none : new int[] {-1, 2, MIN, MAX}) refused(Edge::rich, -2, x -> x.can(none));
  }

  @Sentence("-3 likewise.")
  static void promise16_minus3NoEatersNoRhymes() {
    for (int what = 0; what < 2; what++) {
      int told = what;
      refused(Promises14To26::noEater, -3, x -> x.can(told));
      refused(Promises14To26::noRhyme, -3, x -> x.can(told));
      refused(TinkerTailor::new, -3, x -> x.can(told));
    }
  }

  @Sentence("-2; -3")
  static void promise16_refusalsInTheirOrder() {
    refused(TinkerTailor::new, -2, x -> x.can(2));
    refused(TinkerTailor::new, -2, x -> x.can(-1));
  }

  // ---- promise 17

  @Sentence({"SURE (what 0), with which number (1; -9).", "SURE of one", "whether it can have its WISH at the end, whatever the others do"})
  static void promise17_whateverTheOthersDo() {
    for (int eaters = 1; eaters <= 4; eaters++) {
      for (int most = 1; most <= 6; most += most < 3 ? 1 : 3) {
        for (int fruits = 0; fruits <= 7; fruits++) sureAsByTrying(eaters, most, fruits);
      }
    }
  }

  /** RHYME 0 has three words, each wishes the one that is said to two; every second has two STONES now. */
  private static void sureAsByTrying(int eaters, int most, int fruits) {
    TinkerTailor x = with("r3;" + "e000100;e000102;e000100;e000102;".substring(0, 8 * eaters) + "b" + fruits + ",2" + most + ";");
    for (int next = 0; next < eaters; next++) {
      x.set(3, next);
      for (int one = 0; one < eaters; one++) {
        int stones = one % 2 * 2;
        is(x.sure(one, 0), sureByTrying(eaters, one, most, fruits, next, stones) ? 1 : 0);
        is(x.sure(one, 1), one == next ? firstByTrying(eaters, one, most, fruits, stones) : -9);
      }
    }
  }

  private static boolean sureByTrying(int eaters, int one, int most, int left, int who, int stones) {
    if (left == 0) return stones > 0 && (stones - 1) % 3 == 1;
    boolean some = false;
    boolean all = true;
    for (int k = 1; k <= most && k <= left; k++) {
      boolean good = sureByTrying(eaters, one, most, left - k, (who + 1) % eaters, who == one ? stones + k : stones);
      some = some || good;
      all = all && good;
    }
    return who == one ? some : all;
  }

  private static int firstByTrying(int eaters, int one, int most, int fruits, int stones) {
    for (int k = 1; k <= most && k <= fruits; k++) {
      if (sureByTrying(eaters, one, most, fruits - k, (one + 1) % eaters, stones + k)) return k;
    }
    return -9;
  }

  @Sentence("till no FRUITS are left: 1, 0;")
  static void promise17_noFruitsAreLeft() {
    TinkerTailor x = with("r8;e000304;e000305;b0,23;");
    are(x.sure(0, 0), 1, x.sure(1, 0), 0, x.sure(0, 1), -9, x.sure(1, 1), -9);
    x.set(0, 1); // 0 has to take it
    are(x.sure(0, 0), 0, x.sure(0, 1), -9, x.set(3, 1), 0, x.sure(0, 0), 1, x.sure(0, 1), -9, x.sure(1, 0), 0);
    onlyLooks(Edge::rich, 0, y -> y.sure(0, 0));
    TinkerTailor alone = with("r12;e001100;b60,26;");
    are(alone.sure(0, 0), 1, alone.sure(0, 1), 1, alone.set(0, 59), 60, alone.sure(0, 0), 0, alone.sure(0, 1), -9);
    are(with("r8;e000801;b8,23;").sure(0, 0), 0, with("r8;e000000;b0,23;").sure(0, 0), 0);
  }

  @Sentence("(STONES above 99 count on, too): whether")
  static void promise17_stonesAbove99CountOn() {
    TinkerTailor x = with("r8;e000399;b1,23;");
    are(x.sure(0, 0), 1, x.sure(0, 1), 1, x.set(0, 9), 1, x.sure(0, 0), 1, x.set(0, 2), 9, x.sure(0, 0), 0);
    are(x.set(0, 0), 2, x.sure(0, 0), 0, x.lay(0, 1, 2), 3, x.sure(0, 0), 1);
  }

  @Sentence("if by TURNS from NEXT on each takes 1 .. MOST")
  static void promise17_eachTakesOneToMost() {
    TinkerTailor x = with("r8;e000200;e000000;b3,23;");
    are(x.sure(0, 0), 1, x.sure(0, 1), 3, x.set(2, 2), 3, x.sure(0, 0), 0, x.sure(0, 1), -9, x.set(2, 4), 2, x.sure(0, 1), 3);
    TinkerTailor single = with("r8;e000300;e000300;b7,21;"); // by ones 0 takes four of seven
    are(single.sure(0, 0), 1, single.sure(0, 1), 1, single.sure(1, 0), 0, single.set(0, 8), 7, single.sure(1, 0), 1, single.sure(1, 1), -9);
    are(single.set(3, 1), 0, single.sure(1, 0), 1, single.sure(1, 1), 1, single.sure(0, 0), 1, single.sure(0, 1), -9);
  }

  @Sentence("with which first number, if it is NEXT (the least; else -9).")
  static void promise17_theLeastFirstNumberIfItIsNext() {
    TinkerTailor x = with("r2;e000000;e000000;b2,22;"); // 1 and 1; by 2 it would have two
    are(x.sure(0, 1), 1, x.set(0, 3), 2, x.set(2, 3), 2, x.sure(0, 1), 3);
    TinkerTailor three = with("r12;e000200;e000000;e000000;b3,21;");
    are(three.sure(0, 0), 0, three.sure(0, 1), -9, three.lay(0, 0, 2), 0, three.sure(0, 1), 1, three.set(3, 2), 0, three.sure(0, 0), 1);
    is(three.sure(0, 1), -9);
    TinkerTailor all = with("r8;e000500;b6,26;"); // each first number does
    is(all.sure(0, 1), 1);
  }

  @Sentence("-1")
  static void promise17_minus1NoSuchEater() {
    Maker four = () -> with("r8;" + FOUR_EATERS);
    is(four.make().sure(3, 0), 0);
    for (int none : new int[] {-1, 4, MIN, MAX}) refused(four, -1, x -> x.sure(none, 0));
    refused(Edge::rich, -1, x -> x.sure(2, 1));
    refused(Promises14To26::noEater, -1, x -> x.sure(0, 0));
  }

  @Sentence("-2")
  static void promise17_minus2NoSuchWhat() {
    for (int none : new int[] {-1, 2, MIN, MAX}) refused(Edge::rich, -2, x -> x.sure(0, none));
  }

  @Sentence("-3 no RHYMES.")
  static void promise17_minus3NoRhymes() {
    refused(Promises14To26::noRhyme, -3, x -> x.sure(0, 0));
    refused(Promises14To26::noRhyme, -3, x -> x.sure(1, 1));
  }

  @Sentence("-1; -2; -3 no RHYMES.")
  static void promise17_refusalsInTheirOrder() {
    refused(Promises14To26::noRhyme, -1, x -> x.sure(2, 2));
    refused(Promises14To26::noRhyme, -1, x -> x.sure(2, 0));
    refused(Edge::rich, -1, x -> x.sure(2, 2));
    refused(Promises14To26::noRhyme, -2, x -> x.sure(0, 2));
  }

  // ---- promise 18

  @Sentence({"LAST: who (what 0), the first number (1).", "LAST: of two EATERS alone who, from NEXT on by TURNS taking 1 .. MOST, "
      + "can surely take the last FRUIT; the least first number of NEXT, if it is the one (else 1)."})
  static void promise18_whoTakesTheLast() {
    for (int most = 1; most <= 6; most++) {
      TinkerTailor x = with("e000000;e000000;b1,2" + most + ";");
      for (int fruits = 1; fruits <= 60; fruits += fruits < 16 ? 1 : 11) {
        int next = fruits % 2;
        x.set(0, fruits);
        x.set(3, next);
        int rest = fruits % (most + 1);
        are(x.last(0), rest == 0 ? 1 - next : next, x.last(1), rest == 0 ? 1 : rest);
      }
    }
    Maker two = () -> with("e000000;e000000;b3,23;");
    onlyLooks(two, 0, x -> x.last(0));
    onlyLooks(two, 3, x -> x.last(1));
    TinkerTailor x = two.make();
    are(x.set(0, 4), 3, x.last(0), 1, x.last(1), 1, x.set(0, 5), 4, x.last(0), 0, x.last(1), 1, x.set(0, 1), 5, x.last(1), 1);
  }

  @Sentence("-2")
  static void promise18_minus2NoSuchWhat() {
    for (int none : new int[] {-1, 2, MIN, MAX}) refused(Edge::rich, -2, x -> x.last(none));
  }

  @Sentence("-3 not two EATERS,")
  static void promise18_minus3NotTwoEaters() {
    is(with("e000000;e000000;b1,11;").last(0), 0);
    for (int what = 0; what < 2; what++) {
      int told = what;
      refused(() -> with("b9,11;"), -3, x -> x.last(told));
      refused(() -> with("e000000;b9,11;"), -3, x -> x.last(told));
      refused(() -> with("e000000;e000000;e000000;b9,11;"), -3, x -> x.last(told));
      refused(() -> with(FOUR_EATERS + "b9,11;"), -3, x -> x.last(told));
    }
  }

  @Sentence("no FRUITS.")
  static void promise18_minus3NoFruits() {
    refused(() -> with("e000000;e000000;b0,11;"), -3, x -> x.last(0));
    refused(() -> with("e000000;e000000;b0,11;"), -3, x -> x.last(1));
    is(with("e000000;e000000;b1,11;").last(1), 1);
  }

  @Sentence("-2; -3 not two EATERS")
  static void promise18_refusalsInTheirOrder() {
    refused(TinkerTailor::new, -2, x -> x.last(2));
    refused(() -> with("e000000;e000000;b0,11;"), -2, x -> x.last(-1));
  }

  // ---- promise 19

  private static void spoons(TinkerTailor x, int n, int a, int b, int word, long above, long below) {
    are(x.spoons(0, n, a, b, word, 0), above, x.spoons(0, n, a, b, word, 1), below);
  }

  @Sentence({"SPOONS; part 0 above, 1 below the line.", "SPOONS: n spoons (0 .. 20), each a or b FRUITS (0 .. 9) as likely",
      "how likely one's WORD is a told word then"})
  static void promise19_nSpoonsEachAOrB() {
    TinkerTailor x = with("r2;e000000;");
    spoons(x, 1, 0, 1, 0, 1, 2);
    spoons(x, 2, 0, 1, 0, 1, 2);
    spoons(x, 2, 0, 1, 1, 1, 4);
    spoons(x, 2, 1, 0, 1, 1, 4);
    spoons(x, 3, 0, 9, 0, 1, 2);
    spoons(x, 20, 0, 1, 0, 1, 2);
    spoons(x, 20, 0, 1, 1, 524287, 1048576); // but for none at all
    spoons(x, 19, 1, 1, 0, 1, 1);
    spoons(x, 20, 1, 1, 1, 1, 1);
    spoons(x, 20, 9, 8, 1, 1, 2);
    TinkerTailor twelve = with("r12;e000000;");
    spoons(twelve, 20, 9, 9, 11, 1, 1); // 180 is 15 times 12
    spoons(twelve, 20, 9, 9, 10, 0, 1);
    spoons(twelve, 2, 9, 3, 5, 1, 2); // 6, 12 by two ways, 18
    spoons(twelve, 2, 9, 3, 11, 1, 2);
    spoons(twelve, 2, 9, 2, 10, 1, 2); // 4, 11 by two ways, 18
    spoons(twelve, 2, 9, 2, 3, 1, 4);
    onlyLooks(() -> with("r12;e000000;"), 4, y -> y.spoons(0, 2, 9, 2, 3, 1));
  }

  @Sentence("n spoons (0 .. 20)")
  static void promise19_noSpoons() {
    TinkerTailor x = with("r8;e000003;");
    spoons(x, 0, 9, 9, 2, 1, 1);
    spoons(x, 0, 9, 9, 3, 0, 1);
    spoons(x, 0, 0, 0, 12, 0, 1);
    x.lay(0, 0, 0);
    spoons(x, 0, 9, 9, 12, 1, 1);
    spoons(x, 0, 9, 9, 0, 0, 1);
  }

  @Sentence("(of its STONES and all these; 12 for none at all)")
  static void promise19_stonesAndAllTheseAnd12ForNone() {
    TinkerTailor x = with("r8;e000000;");
    spoons(x, 20, 0, 9, 12, 1, 1048576);
    spoons(x, 20, 0, 0, 12, 1, 1);
    spoons(x, 20, 1, 9, 12, 0, 1);
    spoons(x, 3, 0, 5, 12, 1, 8);
    x.lay(0, 0, 1);
    spoons(x, 3, 0, 5, 12, 0, 1);
    x.lay(0, 0, 99); // 100 says 3, 101 says 4
    spoons(x, 1, 1, 2, 3, 1, 2);
    spoons(x, 1, 1, 2, 4, 1, 2);
    spoons(x, 1, 1, 1, 2, 0, 1);
    spoons(x, 20, 9, 9, 6, 1, 1); // 279
  }

  @Sentence({"a told word then", "(word 0 .. 12)"})
  static void promise19_aWordThatItHasNot() {
    TinkerTailor x = with("r8;e000000;");
    spoons(x, 1, 8, 8, 7, 1, 1);
    for (int word = 8; word <= 11; word++) spoons(x, 1, 9, 9, word, 0, 1);
    spoons(x, 1, 8, 0, 12, 1, 2);
  }

  @Sentence({"a fraction in least terms.", "Fractions are told in least terms."})
  static void promise19_inLeastTerms() {
    TinkerTailor x = with("r3;e000001;");
    spoons(x, 4, 1, 2, 0, 3, 8); // 7 by six ways of sixteen
    spoons(x, 4, 1, 2, 1, 5, 16); // 5 by one, 8 by four
    spoons(x, 4, 1, 2, 2, 5, 16); // 6 by four, 9 by one
    spoons(x, 4, 1, 2, 3, 0, 1);
    spoons(x, 4, 3, 3, 0, 1, 1);
  }

  @Sentence({"Refused as told: -1 either", "-1 as 4000000000000000001"})
  static void promise19_minus1NoSuchEater() {
    Maker four = () -> with("r8;" + FOUR_EATERS);
    is(four.make().spoons(3, 0, 0, 0, 2, 0), 1);
    for (int none : new int[] {-1, 4, MIN, MAX}) refusedLong(four, -1, x -> x.spoons(none, 1, 1, 1, 1, 0));
    refusedLong(Edge::rich, -1, x -> x.spoons(2, 1, 1, 1, 1, 1));
    refusedLong(Promises14To26::noEater, -1, x -> x.spoons(0, 1, 1, 1, 1, 0));
    is(four.make().spoons(4, 0, 0, 0, 0, 0), 4000000000000000001L);
  }

  @Sentence("Refused as told: -1 either (word 0 .. 12);")
  static void promise19_minus1NoSuchWord() {
    are(rich().spoons(0, 0, 0, 0, 0, 0), 0, rich().spoons(0, 0, 0, 0, 12, 0), 0);
    for (int none : new int[] {-1, 13, MIN, MAX}) refusedLong(Edge::rich, -1, x -> x.spoons(0, 1, 1, 1, none, 0));
  }

  @Sentence("-4;")
  static void promise19_minus4BelowNone() {
    refusedLong(Edge::rich, -4, x -> x.spoons(0, -1, 0, 0, 0, 0));
    refusedLong(Edge::rich, -4, x -> x.spoons(0, 0, -1, 0, 0, 0));
    refusedLong(Edge::rich, -4, x -> x.spoons(0, 0, 0, -1, 0, 0));
    refusedLong(Edge::rich, -4, x -> x.spoons(0, MIN, 0, 0, 0, 0));
    refusedLong(Edge::rich, -4, x -> x.spoons(0, 0, MIN, 0, 0, 0));
    refusedLong(Edge::rich, -4, x -> x.spoons(0, 0, 0, MIN, 0, 0));
    is(rich().spoons(0, 0, 0, 0, 1, 0), 1); // 18 STONES say 1
  }

  @Sentence("-6 (20; 9);")
  static void promise19_minus6Above20And9() {
    are(rich().spoons(0, 19, 8, 8, 0, 1), 1, rich().spoons(0, 20, 9, 9, 0, 1), 1);
    refusedLong(Edge::rich, -6, x -> x.spoons(0, 21, 9, 9, 0, 0));
    refusedLong(Edge::rich, -6, x -> x.spoons(0, 20, 10, 9, 0, 0));
    refusedLong(Edge::rich, -6, x -> x.spoons(0, 20, 9, 10, 0, 0));
    refusedLong(Edge::rich, -6, x -> x.spoons(0, MAX, 0, 0, 0, 0));
    refusedLong(Edge::rich, -6, x -> x.spoons(0, 0, MAX, 0, 0, 0));
    refusedLong(Edge::rich, -6, x -> x.spoons(0, 0, 0, MAX, 0, 0));
  }

  @Sentence("-2; -3 no RHYMES.")
  static void promise19_minus2NoSuchPart() {
    for (int none : new int[] {-1, 2, MIN, MAX}) refusedLong(Edge::rich, -2, x -> x.spoons(0, 1, 1, 1, 1, none));
  }

  @Sentence("-3 no RHYMES.")
  static void promise19_minus3NoRhymes() {
    refusedLong(Promises14To26::noRhyme, -3, x -> x.spoons(0, 1, 1, 1, 1, 0));
    refusedLong(Promises14To26::noRhyme, -3, x -> x.spoons(0, 0, 0, 0, 12, 1));
  }

  @Sentence("Refused as told: -1 either (word 0 .. 12); -4; -6 (20; 9); -2; -3 no RHYMES.")
  static void promise19_refusalsInTheirOrder() {
    Maker bare = Promises14To26::noRhyme;
    refusedLong(bare, -1, x -> x.spoons(2, -1, 10, -1, 0, 2));
    refusedLong(bare, -1, x -> x.spoons(0, -1, 10, -1, 13, 2));
    refusedLong(bare, -1, x -> x.spoons(2, 21, 0, 0, 0, 0));
    refusedLong(bare, -1, x -> x.spoons(0, 0, 0, 0, -1, 2));
    refusedLong(bare, -1, x -> x.spoons(0, 0, 0, 0, 13, 0));
    refusedLong(bare, -4, x -> x.spoons(0, -1, 10, 10, 0, 2));
    refusedLong(bare, -4, x -> x.spoons(0, 21, -1, 10, 0, 2));
    refusedLong(bare, -4, x -> x.spoons(0, 21, 10, -1, 0, 2));
    refusedLong(bare, -4, x -> x.spoons(0, -1, 0, 0, 0, 0));
    refusedLong(bare, -6, x -> x.spoons(0, 21, 0, 0, 0, 2));
    refusedLong(bare, -6, x -> x.spoons(0, 0, 10, 0, 0, 0));
    refusedLong(bare, -6, x -> x.spoons(0, 0, 0, 10, 0, 2));
    refusedLong(bare, -2, x -> x.spoons(0, 0, 0, 0, 0, 2));
    refusedLong(bare, -2, x -> x.spoons(0, 0, 0, 0, 0, -1));
  }

  // ---- promise 20

  @Sentence({"FAIR: LENGTH (what 0), how many (1).", "FAIR: the LENGTH (2 .. 12) by which RHYME 0 would have most EATERS their WISH"})
  static void promise20_theLengthTwoToTwelve() {
    for (int length = 2; length <= 12; length++) { // so many stones say their last word
      int told = length;
      onlyLooks(() -> with("r5;e00" + (told - 1) / 10 + (told - 1) % 10 + told / 10 + told % 10 + ";"), told, x -> x.fair(0));
    }
    TinkerTailor thirteen = with("r5;e001113;"); // 13 say 0 by 12 and 1 by 11, and 12 only by 13
    are(thirteen.fair(0), 2, thirteen.fair(1), 0, thirteen.lay(0, 0, 12), 13, thirteen.fair(0), 12, thirteen.fair(1), 1);
    is(thirteen.rhyme(0, 0), 5);
  }

  @Sentence("of several the least; how many then.")
  static void promise20_ofSeveralTheLeast() {
    TinkerTailor x = with("r8;e000004;e000104;e000006;");
    // 4, 4, 6 say by 2: 1 1 1; by 3: 0 0 2; by 4: 3 3 1; by 5: 3 3 0; by 6 on: 3 3 5
    are(x.fair(0), 2, x.fair(1), 1, x.lay(1, 1, 0), 1, x.fair(0), 3, x.fair(1), 2, x.lay(2, 1, 2), 0, x.fair(0), 3, x.fair(1), 3);
    are(x.lay(0, 1, 3), 0, x.lay(1, 1, 3), 0, x.lay(2, 1, 5), 2, x.fair(0), 6, x.fair(1), 3);
    are(x.lay(2, 1, 11), 5, x.fair(0), 4, x.fair(1), 2, x.lay(2, 1, 0), 11, x.fair(0), 5, x.fair(1), 3);
    TinkerTailor nobody = with("r8;");
    are(nobody.fair(0), 2, nobody.fair(1), 0);
    are(tell(nobody, "e000000;e000000;e000000;e000000;"), 4, nobody.fair(0), 2, nobody.fair(1), 0);
  }

  @Sentence("(BEGINS modulo LENGTH)")
  static void promise20_beginsModuloLength() {
    TinkerTailor x = with("r12;w011;e001001;");
    are(x.fair(0), 2, x.fair(1), 0); // 11 by 12, 0 by 11, 1 by 10 ..
    are(x.lay(0, 1, 0), 10, x.fair(0), 11, x.fair(1), 1, x.lay(0, 1, 11), 0, x.fair(0), 12, x.lay(0, 1, 1), 11, x.fair(0), 2);
    are(x.lay(0, 1, 3), 1, x.fair(0), 4, x.lay(0, 1, 4), 3, x.fair(0), 7, x.begins(0, 4), 11, x.fair(0), 5, x.fair(1), 1);
  }

  @Sentence("-2")
  static void promise20_minus2NoSuchWhat() {
    for (int none : new int[] {-1, 2, MIN, MAX}) refused(Edge::rich, -2, x -> x.fair(none));
  }

  @Sentence("-3 no RHYMES.")
  static void promise20_minus3NoRhymes() {
    refused(Promises14To26::noRhyme, -3, x -> x.fair(0));
    refused(TinkerTailor::new, -3, x -> x.fair(1));
  }

  @Sentence("-2; -3 no RHYMES.")
  static void promise20_refusalsInTheirOrder() {
    refused(Promises14To26::noRhyme, -2, x -> x.fair(2));
    refused(TinkerTailor::new, -2, x -> x.fair(-1));
  }

  // ---- promise 21

  @Sentence({"GIFT; -9.", "GIFT: of all pushes of k (1 .. 3) STONES"})
  static void promise21_oneToThreeStones() {
    for (int k = 0; k <= 4; k++) {
      TinkerTailor x = with("r12;e001110;e000520;");
      x.lay(1, 0, 6 - k);
      x.lay(0, 0, 20);
      is(x.gift(), k == 0 || k == 4 ? -9 : 10 + k);
      is(x.count(6), 26 - k);
    }
    onlyLooks(() -> with("r12;e001120;e000503;"), 13, x -> x.gift());
  }

  @Sentence("from one who has them to another")
  static void promise21_fromOneWhoHasThem() {
    TinkerTailor x = with("r12;e001102;e000503;");
    are(x.gift(), -9, x.lay(0, 0, 3), 2, x.gift(), 13, x.lay(0, 0, 4), 3, x.gift(), 13);
    x.lay(0, 0, 0);
    x.lay(1, 0, 5);
    are(x.gift(), -9, x.lay(0, 0, 1), 0, x.gift(), 11);
    TinkerTailor alone = with("r12;e000303;");
    are(alone.gift(), -9, alone.lay(0, 0, 5), 3, alone.gift(), -9); // to itself is no push
    are(with("r12;").gift(), -9, with("r12;e000000;e000000;e000000;e000000;").gift(), -9);
  }

  @Sentence("(99 at most there)")
  static void promise21_99AtMostThere() {
    TinkerTailor x = with("r12;e001120;e000297;"); // 99 says 2
    are(x.gift(), 12, x.lay(1, 0, 98), 97, x.gift(), 11, x.lay(1, 1, 3), 2, x.gift(), -9); // 100 would say 3
    are(x.lay(1, 0, 97), 98, x.gift(), -9, x.lay(1, 0, 99), 97, x.gift(), -9);
    TinkerTailor full = with("r12;e000399;e000099;"); // neither can give to the other, 96 .. 98 or not
    is(full.gift(), -9);
  }

  @Sentence("that by which most HAVE their WISH, more than now")
  static void promise21_moreThanNow() {
    TinkerTailor x = with("r8;e000305;e000203;"); // 4 and 4 are one as well
    are(x.gift(), -9, x.lay(1, 0, 2), 3, x.gift(), 11);
    TinkerTailor two = with("r8;e000305;e000202;e000909;"); // both by one from 0 to 1
    are(two.gift(), 11, two.lay(2, 1, 1), 9, two.gift(), 11);
    TinkerTailor most = with("r8;e000405;e000304;e000906;e000103;"); // 5 HAS 4, 4 HAS 3; 3 less 1 HAS 1
    are(most.count(9), 3, most.gift(), 321);
    TinkerTailor later = with("r12;e000304;e000307;e000409;e000509;"); // 0 HAS it; 1 by giving three, 2 and 3 by getting 8, 9
    are(later.count(9), 1, later.gift(), 123, later.lay(3, 0, 3), 9, later.gift(), 133, later.lay(0, 1, 9), 3, later.gift(), 133);
  }

  @Sentence("of several the first (giver, other, k): 100, 10 and 1 times these; -9.")
  static void promise21_ofSeveralTheFirst() {
    TinkerTailor x = with("r8;e000120;e000320;e000220;e000020;"); // 20 says 3: 1 HAS it
    is(x.gift(), 22); // 0 would be at 18, which say 1: by giving two, but not to 1
    x.lay(0, 1, 9);
    is(x.gift(), 201); // 2 would be at 19, 3 at 17: by giving one and three
    x.lay(2, 1, 9);
    is(x.gift(), 303);
    x.lay(2, 1, 5);
    is(x.gift(), 22); // 22 say 5; by 3 giving to 2 as well, but 0 comes first
    x.lay(3, 1, 9);
    is(x.gift(), 22);
    x.lay(2, 1, 4); // 21
    is(x.gift(), 21);
    x.lay(0, 1, 1); // 0 by giving two, 2 by getting one: one either way
    is(x.gift(), 21);
    x.lay(0, 1, 2); // both by one
    is(x.gift(), 21);
  }

  @Sentence("-3 no RHYMES.")
  static void promise21_minus3NoRhymes() {
    refused(Promises14To26::noRhyme, -3, x -> x.gift());
    refused(TinkerTailor::new, -3, x -> x.gift());
    is(with("r8;").gift(), -9);
  }

  // ---- promise 22

  private static final int[] NO_WEIGHTS = {0, 0, 0, 0, 0, 0, 0, 0, 0, 0, 0, 0};

  private static int[] weights(int stones, int weight) {
    int[] all = NO_WEIGHTS.clone();
    all[stones - 1] = weight;
    return all;
  }

  @Sentence({"PETALS: the word.", "PETALS: STONES of one are 1 .. 12 with weights a ROW tells (12 numbers)",
      "the word with which RHYME 0 must BEGIN so that its WISH is likeliest"})
  static void promise22_stonesOneToTwelve() {
    for (int stones = 1; stones <= 12; stones++) {
      TinkerTailor x = with("r12;e000000;");
      row(x, weights(stones, 1));
      are(x.petals(0), stones == 1 ? 0 : 13 - stones, x.petal(0, 0), 1, x.petal(0, 1), 1);
      x.lay(0, 1, 11);
      are(x.petals(0), 12 - stones, x.rhyme(0, 1), 0, x.count(8), 12);
    }
    onlyLooks(withRow("r12;w005;e000077;", weights(2, 99)), 11, x -> x.petals(0));
  }

  @Sentence({"of several the least", "of several the least; how likely"})
  static void promise22_ofSeveralTheLeast() {
    TinkerTailor x = with("r4;e000200;");
    row(x, 5, 5, 5, 5, 0, 0, 0, 0, 0, 0, 0, 0);
    is(x.petals(0), 0);
    row(x, 5, 5, 4, 5, 0, 0, 0, 0, 0, 0, 0, 0); // 2, 1, 0, 3
    is(x.petals(0), 1);
    row(x, 5, 4, 4, 5, 0, 0, 0, 0, 0, 0, 0, 0);
    is(x.petals(0), 2);
    row(x, 4, 4, 4, 5, 0, 0, 0, 0, 0, 0, 0, 0);
    is(x.petals(0), 3);
    row(x, 4, 4, 4, 5, 0, 0, 2, 0, 0, 0, 0, 0); // 7 as 3
    is(x.petals(0), 0);
    row(x, NO_WEIGHTS);
    is(x.petals(0), 0);
    x.lay(0, 1, 4);
    row(x, 1, 2, 3, 4, 5, 6, 7, 8, 9, 10, 11, 12);
    is(x.petals(0), 0); // no such word
    TinkerTailor two = with("r2;e000100;");
    row(two, 1, 2, 1, 2, 1, 2, 1, 2, 1, 2, 1, 2);
    are(two.petals(0), 0, two.petal(0, 0), 2, two.petal(0, 1), 3);
    row(two, 2, 1, 2, 1, 2, 1, 2, 1, 2, 1, 2, 1);
    are(two.petals(0), 1, two.petal(0, 0), 2, two.petal(0, 1), 3);
  }

  @Sentence("-1")
  static void promise22_minus1NoSuchEater() {
    Maker four = withRow("r8;" + FOUR_EATERS, NO_WEIGHTS);
    is(four.make().petals(3), 0);
    for (int none : new int[] {-1, 4, MIN, MAX}) refused(four, -1, x -> x.petals(none));
    refused(Promises14To26::noEater, -1, x -> x.petals(0));
    refused(Edge::rich, -1, x -> x.petals(2));
  }

  @Sentence("-3 the ROW has not 12 (it stays),")
  static void promise22_minus3TheRowHasNot12() {
    is(withRow("r8;e000000;", NO_WEIGHTS).make().petals(0), 0);
    refused(withRow("r8;e000000;"), -3, x -> x.petals(0));
    refused(withRow("r8;e000000;", 1), -3, x -> x.petals(0));
    refused(withRow("r8;e000000;", 1, 1, 1, 1, 1, 1, 1, 1, 1, 1, 1), -3, x -> x.petals(0));
    onlyLooks(withRow("r8;e000000;", weights(3, 1)), 6, x -> x.petals(0));
  }

  @Sentence("no RHYMES.")
  static void promise22_minus3NoRhymes() {
    refused(withRow("e000000;", NO_WEIGHTS), -3, x -> x.petals(0));
    refused(Promises14To26::noRhyme, -3, x -> x.petals(0));
  }

  @Sentence("-1; -3")
  static void promise22_refusalsInTheirOrder() {
    refused(TinkerTailor::new, -1, x -> x.petals(0));
    refused(Promises14To26::noRhyme, -1, x -> x.petals(2));
  }

  // ---- promise 23

  @Sentence({"PETALS: how likely; part likewise.", "how likely: a fraction"})
  static void promise23_howLikely() {
    TinkerTailor x = with("r4;e000200;");
    row(x, 1, 2, 3, 4, 0, 0, 0, 0, 0, 0, 0, 0);
    are(x.petal(0, 0), 2, x.petal(0, 1), 5, x.count(8), 12);
    row(x, 99, 99, 99, 99, 99, 99, 99, 99, 99, 99, 99, 99);
    are(x.petal(0, 0), 1, x.petal(0, 1), 4);
    row(x, 99, 99, 99, 99, 99, 99, 99, 99, 99, 99, 99, 98);
    are(x.petal(0, 0), 297, x.petal(0, 1), 1187);
    onlyLooks(withRow("r12;e000000;", 1, 0, 0, 0, 0, 0, 0, 0, 0, 0, 0, 2), 2, y -> y.petal(0, 0));
    onlyLooks(withRow("r12;e000000;", 1, 0, 0, 0, 0, 0, 0, 0, 0, 0, 0, 2), 3, y -> y.petal(0, 1));
  }

  @Sentence("(0 by 1: no weights).")
  static void promise23_zeroByOneNoWeights() {
    TinkerTailor x = with("r4;e000200;");
    row(x, NO_WEIGHTS);
    are(x.petals(0), 0, x.petal(0, 0), 0, x.petal(0, 1), 1);
    row(x, weights(12, 1));
    are(x.petals(0), 3, x.petal(0, 0), 1, x.petal(0, 1), 1);
    x.lay(0, 1, 4); // weights, but no such word
    are(x.petals(0), 0, x.petal(0, 0), 0, x.petal(0, 1), 1);
  }

  @Sentence("Refused as told: -1;")
  static void promise23_minus1NoSuchEater() {
    Maker four = withRow("r8;" + FOUR_EATERS, NO_WEIGHTS);
    is(four.make().petal(3, 1), 1);
    for (int none : new int[] {-1, 4, MIN, MAX}) refusedLong(four, -1, x -> x.petal(none, 0));
    refusedLong(Promises14To26::noEater, -1, x -> x.petal(0, 0));
    refusedLong(Edge::rich, -1, x -> x.petal(2, 1));
  }

  @Sentence("-3 likewise;")
  static void promise23_minus3TheRowHasNot12NoRhymes() {
    refusedLong(withRow("r8;e000000;"), -3, x -> x.petal(0, 0));
    refusedLong(withRow("r8;e000000;", 1, 1, 1, 1, 1, 1, 1, 1, 1, 1, 1), -3, x -> x.petal(0, 1));
    refusedLong(withRow("e000000;", NO_WEIGHTS), -3, x -> x.petal(0, 0));
    refusedLong(Promises14To26::noRhyme, -3, x -> x.petal(0, 0));
  }

  @Sentence("-2.")
  static void promise23_minus2NoSuchPart() {
    for (int none : new int[] {-1, 2, MIN, MAX}) refusedLong(withRow("r8;e000000;", weights(1, 1)), -2, x -> x.petal(0, none));
  }

  @Sentence("Refused as told: -1; -3 likewise; -2.")
  static void promise23_refusalsInTheirOrder() {
    refusedLong(TinkerTailor::new, -1, x -> x.petal(0, 2));
    refusedLong(Promises14To26::noRhyme, -1, x -> x.petal(2, 0));
    refusedLong(withRow("r8;e000000;", NO_WEIGHTS), -1, x -> x.petal(1, 2));
    refusedLong(Promises14To26::noRhyme, -3, x -> x.petal(0, 2));
    refusedLong(withRow("e000000;", NO_WEIGHTS), -3, x -> x.petal(0, -1));
    refusedLong(withRow("r8;e000000;", 1), -3, x -> x.petal(0, 2));
  }

  // ---- promise 24

  @Sentence({"KIND that is best; -9.", "KIND that is best for one (FIGURE as it is): by SUPPER it HAS its WISH, of these the least KIND, none: -9."})
  static void promise24_theLeastKindNoneMinus9() {
    // of 10 by two EATERS; MOST 3: EATER 5, FREE what it needs (0 too), SPOON 8, HANG pairs, PLAY, KINDLY
    Maker all = () -> with("r12;e480000;e000000;b10,23;");
    int[] best = new int[12];
    for (int wish = 0; wish < 12; wish++) {
      TinkerTailor x = all.make();
      x.lay(0, 1, wish);
      best[wish] = x.best(0);
      int want = -9;
      for (int kind = 5; kind >= 0; kind--) {
        TinkerTailor y = all.make();
        y.lay(0, 1, wish);
        y.kind(0, kind, 8);
        if ((y.supper(2) & 1) == 1) want = kind;
      }
      is(best[wish], want);
      are(x.eater(0, 0), 4, x.eater(0, 1), 8, x.count(2), 10);
    }
    is(best[4], 0); // five by EATER
    is(best[11], -9); // twelve are more than there are
    onlyLooks(all, 1, x -> x.best(0)); // one by FREE
    onlyLooks(Edge::rich, rich().best(1), x -> x.best(1));
  }

  @Sentence("(FIGURE as it is)")
  static void promise24_figureAsItIs() {
    TinkerTailor x = with("r12;e070700;e100909;b10,23;"); // 8 by a spoon of 8, else not
    x.kind(1, 0, 0);
    x.lay(0, 1, 8);
    are(x.best(0), 1, x.kind(0, 0, 9), 7, x.best(0), 1);
    TinkerTailor only = with("r2;e020000;e010000;b3,23;");
    are(only.best(0), 1, only.lay(0, 1, 1), 0, only.best(0), 0);
  }

  @Sentence("-1")
  static void promise24_minus1NoSuchEater() {
    Maker four = () -> with("r8;" + FOUR_EATERS);
    is(four.make().best(3), -9);
    for (int none : new int[] {-1, 4, MIN, MAX}) refused(four, -1, x -> x.best(none));
    refused(Edge::rich, -1, x -> x.best(2));
    refused(TinkerTailor::new, -1, x -> x.best(0));
    are(with("e000000;b9,11;").best(0), -9, with("r8;e000809;b9,11;").best(0), -9, with("r8;e500001;").best(0), 0);
  }

  // ---- promise 25

  @Sentence({"RIMS by the ROW (bits; it stays).", "RIMS: told STONES (a ROW, one for each EATER): whose being NEXT (bits) brings these by SUPPER."})
  static void promise25_whoseBeingNextBringsThese() {
    Maker odd = withRow("e000000;e000000;b3,23;", 2, 1);
    onlyLooks(odd, 1, x -> x.rims());
    onlyLooks(withRow("e000000;e000000;b3,23;", 1, 2), 2, x -> x.rims());
    onlyLooks(withRow("e000000;e000000;b3,23;", 2, 2), 0, x -> x.rims());
    onlyLooks(withRow("e000000;e000000;b3,23;", 1, 1), 0, x -> x.rims());
    onlyLooks(withRow("e000000;e000000;b4,23;", 2, 2), 3, x -> x.rims());
    onlyLooks(withRow("e000000;e000000;e000000;e000000;b8,23;", 2, 2, 2, 2), 15, x -> x.rims());
    onlyLooks(withRow("e000000;e000000;e000000;e000000;b3,23;", 1, 1, 0, 1), 8, x -> x.rims());
    onlyLooks(withRow("e000099;b3,23;", 99), 1, x -> x.rims());
    onlyLooks(withRow("e000000;b0,23;", 0), 1, x -> x.rims());
  }

  @Sentence("-3 it has not as many as EATERS,")
  static void promise25_minus3NotAsManyAsEaters() {
    refused(withRow("e000000;e000000;b3,23;"), -3, x -> x.rims());
    refused(withRow("e000000;e000000;b3,23;", 2), -3, x -> x.rims());
    refused(withRow("e000000;e000000;b3,23;", 2, 1, 0), -3, x -> x.rims());
    refused(withRow(FOUR_EATERS, 0, 1, 2), -3, x -> x.rims());
    refused(withRow(FOUR_EATERS, 0, 1, 2, 3, 4), -3, x -> x.rims());
    is(withRow(FOUR_EATERS, 0, 1, 2, 3).make().rims(), 15);
  }

  @Sentence("no EATERS.")
  static void promise25_minus3NoEaters() {
    refused(TinkerTailor::new, -3, x -> x.rims());
    refused(Promises14To26::noEater, -3, x -> x.rims());
  }

  // ---- promise 26

  @Sentence({"WISHED by the ROW (bits; it stays).", "WISHED: words (bits) for one that, were they its WISH, would have brought its told STONES by "
      + "SUPPER (the ROW likewise)."})
  static void promise26_wordsThatWouldHaveBroughtThese() {
    Maker free = withRow("r12;e100000;e000000;b60,23;", 1, 99);
    onlyLooks(free, 1, x -> x.wished(0));
    for (int word = 0; word <= 11; word++) {
      TinkerTailor x = free.make();
      row(x, word + 1, 0);
      is(x.wished(0), 1 << word);
    }
    Maker gone = withRow("r8;e100000;e000000;b9,23;", 0, 9);
    onlyLooks(gone, 0xF00, x -> x.wished(0)); // words that it has not; its TURNS take none
    onlyLooks(gone, 0, x -> x.wished(1)); // FREE takes one, so 8 are left to the other
    onlyLooks(withRow("r8;e100000;e000000;b9,23;", 0, 8), 0xFFF, x -> x.wished(1)); // whatever its own WISH is
    onlyLooks(withRow("e100000;b9,23;", 0), 0xFFF, x -> x.wished(0)); // no words without RHYMES
    onlyLooks(withRow("e100000;b9,23;", 1), 0, x -> x.wished(0));
  }

  @Sentence("-1")
  static void promise26_minus1NoSuchEater() {
    Maker four = withRow("r8;" + FOUR_EATERS, 0, 0, 0, 0);
    is(four.make().wished(3), 0);
    for (int none : new int[] {-1, 4, MIN, MAX}) refused(four, -1, x -> x.wished(none));
    refused(Edge::rich, -1, x -> x.wished(2));
  }

  @Sentence("-3 likewise.")
  static void promise26_minus3NotAsManyAsEaters() {
    is(withRow("e000000;e000000;", 0, 0).make().wished(0), 0xFFF);
    refused(withRow("e000000;e000000;b3,23;"), -3, x -> x.wished(0));
    refused(withRow("e000000;e000000;b3,23;", 2), -3, x -> x.wished(0));
    refused(withRow("e000000;e000000;b3,23;", 2, 1, 0), -3, x -> x.wished(1));
    refused(withRow(FOUR_EATERS, 0, 1, 2), -3, x -> x.wished(3));
    refused(withRow(FOUR_EATERS, 0, 1, 2, 3, 4), -3, x -> x.wished(3));
  }

  @Sentence("-1; -3 likewise.")
  static void promise26_refusalsInTheirOrder() {
    refused(TinkerTailor::new, -1, x -> x.wished(0));
    refused(withRow("e000000;e000000;b3,23;"), -1, x -> x.wished(2));
  }
}
