/** PILES, DUEL, THE IMAGE, what is counted. */
final class Promises39To45 extends Edge {
  private static TinkerTailor piles(int most, int... sizes) {
    TinkerTailor x = new TinkerTailor();
    x.set(2, most);
    for (int n : sizes) x.pile(n);
    return x;
  }

  // ---- promise 39

  @Sentence({"A PILE more: its number.", "PILES 0 .. 3 as they come (4 at most; none at first) of 0 .. 12"})
  static void promise39_itsNumber() {
    TinkerTailor x = new TinkerTailor();
    are(x.count(10), 0, x.pile(0), 0, x.count(10), 1, x.pile(12), 1, x.pile(1), 2, x.pile(11), 3, x.count(10), 4, x.count(18), 24);
    are(x.move(1, 3), 9, x.move(3, 1), 10, x.move(2, 1), 0);
  }

  @Sentence("-4;")
  static void promise39_minus4BelowNone() {
    refused(Edge::rich, -4, x -> x.pile(-1));
    refused(Edge::rich, -4, x -> x.pile(MIN));
    is(rich().pile(0), 2);
  }

  @Sentence("-6 (12; 4 PILES).")
  static void promise39_minus6Above12() {
    are(rich().pile(11), 2, rich().pile(12), 2);
    refused(Edge::rich, -6, x -> x.pile(13));
    refused(Edge::rich, -6, x -> x.pile(MAX));
  }

  @Sentence({"-6 (12; 4 PILES).", "(4 at most;"})
  static void promise39_minus6Behind4Piles() {
    is(piles(3, 1, 1, 1).pile(1), 3);
    refused(() -> piles(3, 1, 1, 1, 1), -6, x -> x.pile(1));
    refused(() -> piles(3, 0, 0, 0, 0), -6, x -> x.pile(0));
  }

  @Sentence("-4; -6 (12; 4 PILES).")
  static void promise39_refusalsInTheirOrder() {
    refused(() -> piles(3, 1, 1, 1, 1), -4, x -> x.pile(-1));
    refused(() -> piles(3, 1, 1, 1, 1), -6, x -> x.pile(13));
  }

  // ---- promise 40

  @Sentence({"n are taken from a PILE: how many are left in it.", "A move takes so many of a PILE."})
  static void promise40_howManyAreLeft() {
    TinkerTailor x = piles(6, 12, 3, 0, 7);
    are(x.move(0, 6), 6, x.move(0, 6), 0, x.move(1, 1), 2, x.move(1, 2), 0, x.move(3, 5), 2, x.count(18), 2, x.count(10), 4);
    are(x.move(3, 2), 0, x.count(10), 4, x.count(18), 0, x.pile(1), -6);
  }

  @Sentence("-1;")
  static void promise40_minus1NoSuchPile() {
    Maker four = () -> piles(3, 5, 5, 5, 5);
    is(four.make().move(3, 1), 4);
    for (int none : new int[] {-1, 4, MIN, MAX}) refused(four, -1, x -> x.move(none, 1));
    is(rich().move(1, 1), 4);
    refused(Edge::rich, -1, x -> x.move(2, 1));
    refused(TinkerTailor::new, -1, x -> x.move(0, 1));
  }

  @Sentence("-4 below 1;")
  static void promise40_minus4Below1() {
    for (int none : new int[] {0, -1, MIN}) refused(Edge::rich, -4, x -> x.move(0, none));
    is(rich().move(0, 1), 2);
  }

  @Sentence("-6 MOST,")
  static void promise40_minus6AboveMost() {
    for (int most = 1; most <= 6; most++) {
      int told = most;
      Maker some = () -> piles(told, 12);
      is(some.make().move(0, told), 12 - told);
      refused(some, -6, x -> x.move(0, told + 1));
      refused(some, -6, x -> x.move(0, MAX));
    }
  }

  @Sentence("more than it has.")
  static void promise40_minus6MoreThanItHas() {
    for (int n = 0; n <= 5; n++) {
      int told = n;
      Maker some = () -> piles(6, 12, told);
      if (n > 0) is(some.make().move(1, n), 0);
      refused(some, -6, x -> x.move(1, told + 1));
    }
  }

  @Sentence("-1; -4 below 1; -6 MOST, more than it has.")
  static void promise40_refusalsInTheirOrder() {
    refused(Edge::rich, -1, x -> x.move(2, 0));
    refused(Edge::rich, -1, x -> x.move(2, 99));
    refused(() -> piles(3, 0), -4, x -> x.move(0, 0));
  }

  // ---- promise 41

  @Sentence({"Whether the one to move wins: by the last one (what 0), if that loses (1);", "the first such move (2, 3; -9).",
      "two by TURNS take 1 .. MOST from one: who takes the last wins: whether the one to move does",
      "the first move that does (10 the PILE and how many, the least); -9; the like, if who takes the last loses"})
  static void promise41_whoMovesWins() {
    int[][] sizes = {{}, {0}, {1}, {2}, {3}, {12}, {1, 1}, {1, 2}, {2, 2}, {0, 3}, {4, 4}, {1, 1, 1}, {1, 2, 3}, {2, 2, 1}, {0, 0, 2},
        {1, 1, 1, 1}, {2, 1, 1, 1}, {3, 4, 5}, {5, 5, 1, 1}, {12, 11}, {7, 8, 1}, {4, 0, 4, 1}};
    for (int most = 1; most <= 6; most++) {
      for (int[] some : sizes) {
        TinkerTailor x = piles(most, some);
        int[] now = java.util.Arrays.copyOf(some, 4);
        are(x.wins(0), moverWins(now, most, false) ? 1 : 0, x.wins(1), moverWins(now, most, true) ? 1 : 0);
        are(x.wins(2), firstMove(now, most, false), x.wins(3), firstMove(now, most, true));
      }
    }
    onlyLooks(Edge::rich, moverWins(new int[] {3, 5, 0, 0}, 3, false) ? 1 : 0, x -> x.wins(0));
    onlyLooks(Edge::rich, firstMove(new int[] {3, 5, 0, 0}, 3, true), x -> x.wins(3));
  }

  private static final java.util.Map<String, Boolean> TRIED = new java.util.HashMap<>();

  private static boolean moverWins(int[] now, int most, boolean lastLoses) {
    String key = java.util.Arrays.toString(now) + most + lastLoses;
    Boolean known = TRIED.get(key);
    if (known != null) return known;
    boolean any = false;
    boolean wins = false;
    for (int p = 0; p < 4; p++) {
      for (int k = 1; k <= most && k <= now[p]; k++) {
        any = true;
        now[p] -= k;
        if (!moverWins(now, most, lastLoses)) wins = true;
        now[p] += k;
      }
    }
    boolean answer = any ? wins : lastLoses;
    TRIED.put(key, answer);
    return answer;
  }

  private static int firstMove(int[] now, int most, boolean lastLoses) {
    for (int p = 0; p < 4; p++) {
      for (int k = 1; k <= most && k <= now[p]; k++) {
        now[p] -= k;
        boolean lost = !moverWins(now, most, lastLoses);
        now[p] += k;
        if (lost) return 10 * p + k;
      }
    }
    return -9;
  }

  @Sentence("(no PILE has any: the one to move wins).")
  static void promise41_noPileHasAny() {
    for (TinkerTailor x : new TinkerTailor[] {new TinkerTailor(), piles(3, 0), piles(1, 0, 0, 0, 0)}) {
      are(x.wins(0), 0, x.wins(1), 1, x.wins(2), -9, x.wins(3), -9);
    }
    TinkerTailor one = piles(3, 1);
    are(one.wins(0), 1, one.wins(1), 0, one.wins(2), 1, one.wins(3), -9, one.move(0, 1), 0, one.wins(0), 0, one.wins(1), 1);
  }

  @Sentence("-2.")
  static void promise41_minus2NoSuchWhat() {
    for (int none : new int[] {-1, 4, MIN, MAX}) refused(Edge::rich, -2, x -> x.wins(none));
    refused(TinkerTailor::new, -2, x -> x.wins(4));
  }

  // ---- promise 42

  /** By trying: who HAS its WISH in the end (bits) and the first number. */
  private static int[] duel(int length, int[] wishes, int[] stones, int most, int left, int who) {
    if (left == 0) {
      int bits = 0;
      for (int e = 0; e < 2; e++) if (stones[e] > 0 && (stones[e] - 1) % length == wishes[e]) bits |= 1 << e;
      return new int[] {bits, 0};
    }
    int[] best = null;
    int worth = -1;
    for (int k = 1; k <= most && k <= left; k++) {
      stones[who] += k;
      int bits = duel(length, wishes, stones, most, left - k, 1 - who)[0];
      stones[who] -= k;
      int mine = ((bits >> who & 1) == 1 ? 2 : 0) + ((bits >> 1 - who & 1) == 0 ? 1 : 0);
      if (mine > worth) {
        worth = mine;
        best = new int[] {bits, k};
      }
    }
    return best;
  }

  @Sentence({"DUEL: who HAS its WISH (what 0, bits), the first number (1).", "DUEL of two EATERS alone: from NEXT on by TURNS each takes 1 .. MOST",
      "to each it is worth 2 that it HAS its WISH, 1 that the other has not; each takes the number by which it is worth most to itself in the end",
      "of several the least: who HAS its WISH then (bits)"})
  static void promise42_byTrying() {
    for (int length = 2; length <= 5; length++) {
      for (int most = 1; most <= 6; most += most < 4 ? 1 : 2) {
        TinkerTailor x = with("r" + length + ";e000000;e000000;");
        x.set(2, most);
        for (int fruits = 0; fruits <= 8; fruits++) {
          int[] wishes = {(fruits + most) % 4, (2 * fruits + length) % 4};
          int[] stones = {fruits % 3, length % 3};
          x.set(0, fruits);
          x.set(3, (fruits + length) % 2);
          for (int e = 0; e < 2; e++) {
            x.lay(e, 1, wishes[e]);
            x.lay(e, 0, stones[e]);
          }
          int[] want = duel(length, wishes, stones, most, fruits, (fruits + length) % 2);
          are(x.duel(0), want[0], x.duel(1), want[1]);
        }
      }
    }
    onlyLooks(() -> with("r8;e000900;e000000;b2,22;"), 2, x -> x.duel(1)); // it cannot HAVE it, and leaves none to the other
    onlyLooks(() -> with("r8;e000900;e000000;b2,22;"), 0, x -> x.duel(0));
  }

  @Sentence("the first number (0: no FRUITS).")
  static void promise42_noFruits() {
    TinkerTailor x = with("r8;e000304;e000304;b0,23;");
    are(x.duel(0), 3, x.duel(1), 0, x.lay(1, 0, 5), 4, x.duel(0), 1, x.lay(0, 0, 5), 4, x.duel(0), 0, x.set(0, 1), 0, x.duel(1), 1);
    are(x.lay(0, 0, 3), 5, x.duel(0), 1, x.set(3, 1), 0, x.duel(0), 0, x.lay(1, 0, 3), 5, x.duel(0), 2);
  }

  @Sentence("till no FRUITS are left (STONES above 99 count on);")
  static void promise42_stonesAbove99CountOn() {
    TinkerTailor x = with("r8;e000399;e000900;b1,22;"); // 100 say 3
    are(x.duel(0), 1, x.set(3, 1), 0, x.duel(0), 0, x.lay(0, 1, 2), 3, x.duel(0), 1, x.set(3, 0), 1, x.duel(0), 0);
    TinkerTailor other = with("r8;e000900;e000399;b1,22;");
    are(other.duel(0), 0, other.set(3, 1), 0, other.duel(0), 2);
  }

  @Sentence("-2;")
  static void promise42_minus2NoSuchWhat() {
    for (int none : new int[] {-1, 2, MIN, MAX}) refused(Edge::rich, -2, x -> x.duel(none));
  }

  @Sentence("-3 not two EATERS,")
  static void promise42_minus3NotTwoEaters() {
    is(with("r8;e000000;e000000;b1,11;").duel(0), 1);
    for (int what = 0; what < 2; what++) {
      int told = what;
      refused(() -> with("r8;b9,11;"), -3, x -> x.duel(told));
      refused(() -> with("r8;e000000;b9,11;"), -3, x -> x.duel(told));
      refused(() -> with("r8;e000000;e000000;e000000;b9,11;"), -3, x -> x.duel(told));
      refused(() -> with("r8;e000000;e000000;e000000;e000000;b9,11;"), -3, x -> x.duel(told));
    }
  }

  @Sentence("no RHYMES.")
  static void promise42_minus3NoRhymes() {
    refused(() -> with("e000000;e000000;b9,11;"), -3, x -> x.duel(0));
    refused(() -> with("e000000;e000000;b0,11;"), -3, x -> x.duel(1));
  }

  @Sentence("-2; -3 not two EATERS, no RHYMES.")
  static void promise42_refusalsInTheirOrder() {
    refused(TinkerTailor::new, -2, x -> x.duel(2));
    refused(() -> with("e000000;e000000;b9,11;"), -2, x -> x.duel(-1));
  }

  // ---- promises 43 and 44

  @Sentence("THE IMAGE is taken: FRUITS.")
  static void promise43_fruits() {
    are(new TinkerTailor().image(), 0, with("b60,11;").image(), 60, rich().image(), 10);
    TinkerTailor x = with("e000000;b9,11;");
    are(x.image(), 9, x.turn(), 1, x.image(), 8, x.turn(), 1, x.restore(), 8, x.count(2), 8); // the latest alone
    TinkerTailor empty = new TinkerTailor();
    are(empty.image(), 0, tell(empty, "r2;e000000;b9,11;"), 3, empty.pile(3), 0, empty.restore(), 0);
    are(empty.count(0), 0, empty.count(1), 0, empty.count(10), 0, empty.count(18), 0, empty.count(3), 2, empty.count(4), 3);
  }

  @Sentence("THE IMAGE: all that there is (PILES, too), but it, letters, the ROW, REFUSALS.")
  static void promise43_allThatThereIs() {
    TinkerTailor x = with("r8;r5;w103;e230412;e100300;b20,24;");
    x.set(3, 1);
    x.pile(3);
    x.pile(7);
    x.image();
    tell(x, "r7;r6;w004;w101;e511111;b50,42;t;");
    for (int e = 0; e < 3; e++) {
      x.kind(e, 4, 7);
      x.lay(e, 0, 50);
      x.lay(e, 1, 9);
    }
    x.set(3, 2);
    x.move(0, 2);
    x.move(1, 1);
    x.pile(9);
    are(x.count(0), 3, x.count(1), 4, x.count(10), 3, x.restore(), 20);
    are(x.count(0), 2, x.count(1), 2, x.count(2), 20, x.count(3), 2, x.count(4), 4, x.count(5), 1, x.count(10), 2, x.count(18), 10);
    are(x.rhyme(0, 0), 8, x.rhyme(0, 1), 0, x.rhyme(1, 0), 5, x.rhyme(1, 1), 3);
    int[] eaters = {2, 3, 4, 12, 1, 0, 3, 0};
    for (int i = 0; i < 8; i++) is(x.eater(i / 4, i % 4), eaters[i]);
    are(x.move(0, 3), 0, x.move(1, 4), 3, x.restore(), 20, x.move(0, 3), 0, x.move(1, 4), 3);
  }

  @Sentence("but it, letters, the ROW, REFUSALS.")
  static void promise43_whatItHasNot() {
    TinkerTailor x = with("r8;e000000;b9,23;");
    feed(x, "r5");
    x.row(4);
    x.row(-1);
    are(x.image(), 9, x.feed(';'), 3, x.row(5), 2, x.row(-1), -4, x.rhyme(3, 3), -1, x.turn(), 1);
    are(x.restore(), 9, x.count(7), 3, x.count(8), 2, x.count(14), 2, x.count(11), 1, x.count(17), 0, x.table(), 1, x.rhyme(1, 0), 5);
    are(x.clear(), 2, x.restore(), 9, x.count(1), 1, x.count(8), 0, x.count(7), 0);
  }

  @Sentence("It is RESTORED: FRUITS.")
  static void promise44_fruits() {
    TinkerTailor x = with("r8;e000000;b9,23;");
    are(x.image(), 9, x.restore(), 9, x.turn(), 1, x.turn(), 1, x.restore(), 9, x.count(2), 9, x.count(6), 0, x.count(5), 0);
    are(x.set(0, 60), 9, x.begins(0, 7), 0, x.restore(), 9, x.rhyme(0, 1), 0); // it stays as it was taken
    is(x.lay(0, 0, 5), 0);
    are(x.restore(), 9, x.eater(0, 3), 0);
  }

  @Sentence("-3 there is none.")
  static void promise44_minus3ThereIsNone() {
    refused(TinkerTailor::new, -3, x -> x.restore());
    refused(() -> {
      TinkerTailor x = with("r8;e000000;b9,23;");
      x.turn();
      return x;
    }, -3, x -> x.restore());
    TinkerTailor x = new TinkerTailor();
    are(x.restore(), -3, x.image(), 0, x.restore(), 0, x.count(13), 1);
  }

  // ---- promise 45

  @Sentence({"0 EATERS, 1 RHYMES, 2 FRUITS, 3 BUNCH, 4 MOST, 5 NEXT, 6 all STONES, 7 letters, 8 in the ROW, 9 who HAS its WISH (bits), 10 PILES",
      "17 TURNS that can be taken BACK, 18 all that the PILES have"})
  static void promise45_whatIsCounted() {
    TinkerTailor x = with("r8;r5;", "e000304;e000005;e000811;b20,34;");
    x.pile(3);
    x.pile(9);
    x.pile(0);
    x.set(3, 2);
    x.turn();
    feed(x, "abcd");
    for (int i = 0; i < 5; i++) x.row(i);
    int[] due = {3, 2, 19, 3, 4, 0, 21, 4, 5, 1, 3};
    for (int what = 0; what <= 10; what++) {
      is(x.count(what), due[what]);
      int told = what;
      onlyLooks(Edge::rich, new int[] {2, 2, 10, 2, 3, 1, 22, 4, 2, 2, 2}[what], y -> y.count(told));
    }
    are(x.count(17), 1, x.count(18), 12);
    TinkerTailor full = with("r2;r2;r2;r2;", "e000099;e000099;e000099;e000099;b60,46;");
    for (int p = 0; p < 4; p++) full.pile(12);
    are(full.count(0), 4, full.count(1), 4, full.count(2), 60, full.count(3), 4, full.count(4), 6, full.count(6), 396);
    are(full.count(9), 15, full.count(10), 4, full.count(18), 48);
    are(with("e000001;").count(9), 0, with("r2;e000000;").count(9), 0);
  }

  @Sentence({"11 .. 16 REFUSALS -1 .. -6.", "REFUSALS (the call answers the number, the first that fits in the order in which it tells them",
      "nothing changes but how many there were): -1 NOBODY", "-3 STATE: it is not as told."})
  static void promise45_refusalsAreCounted() {
    TinkerTailor x = new TinkerTailor();
    Call[] calls = {y -> y.rhyme(0, 0), y -> y.wins(9), y -> y.turn(), y -> y.row(-1), null, y -> y.row(100)};
    for (int i = 0; i < 6; i++) {
      for (int times = 0; calls[i] != null && times <= i; times++) is(calls[i].on(x), -1 - i);
    }
    for (int i = 0; i < 6; i++) is(x.count(11 + i), calls[i] == null ? 0 : i + 1);
    is(x.shared(7), FAR + 2);
    is(x.petal(0, 0), FAR + 1);
    is(x.unknown(0, 0, 0, 0), FAR + 1);
    is(x.spoons(0, 0, 0, 0, 0, 0), FAR + 1);
    are(x.count(11), 4, x.count(12), 3, x.count(13), 3, x.count(14), 4, x.count(15), 0, x.count(16), 6);
  }

  @Sentence("-9 for another what.")
  static void promise45_minus9ForAnotherWhat() {
    for (int none : new int[] {-1, 19, 20, MIN, MAX}) onlyLooks(Edge::rich, -9, x -> x.count(none));
    are(rich().count(18), 8, rich().count(0), 2);
  }
}
