/** RHYMES, EATERS, the BOWL, TURNS, SUPPER. */
final class Promises04To13 extends Edge {
  private static final String FOUR_EATERS = "e000000;e110101;e220202;e330303;";

  private static TinkerTailor fourRhymes() {
    return with("r2;r3;r11;r12;");
  }

  // ---- promise 4

  @Sentence({"Of a RHYME: LENGTH (what 0), what it BEGINS with (1).", "a word it BEGINS with (0 at first)"})
  static void promise04_lengthAndWhatItBeginsWith() {
    TinkerTailor x = with("r2;r12;w111;");
    are(x.rhyme(0, 0), 2, x.rhyme(0, 1), 0, x.rhyme(1, 0), 12, x.rhyme(1, 1), 11);
    onlyLooks(Edge::rich, 5, y -> y.rhyme(1, 0));
    onlyLooks(Edge::rich, 3, y -> y.rhyme(1, 1));
  }

  @Sentence({"-1", "RHYMES 0 .. 3 as they come"})
  static void promise04_minus1NoSuchRhyme() {
    are(fourRhymes().rhyme(0, 0), 2, fourRhymes().rhyme(3, 0), 12);
    for (int none : new int[] {-1, 4, MIN, MAX}) refused(Promises04To13::fourRhymes, -1, x -> x.rhyme(none, 0));
    is(rich().rhyme(1, 0), 5);
    refused(Edge::rich, -1, x -> x.rhyme(2, 0));
    refused(TinkerTailor::new, -1, x -> x.rhyme(0, 0));
  }

  @Sentence("-2")
  static void promise04_minus2NoSuchWhat() {
    for (int none : new int[] {-1, 2, MIN, MAX}) refused(Edge::rich, -2, x -> x.rhyme(0, none));
  }

  @Sentence({"-1", "-2"})
  static void promise04_refusalsInTheirOrder() {
    refused(Edge::rich, -1, x -> x.rhyme(2, 2));
    refused(Edge::rich, -1, x -> x.rhyme(-1, -1));
  }

  // ---- promise 5

  @Sentence("It BEGINS with a word: with which it did.")
  static void promise05_withWhichItDid() {
    TinkerTailor x = with("r2;r12;");
    are(x.begins(0, 1), 0, x.begins(0, 1), 1, x.begins(0, 0), 1, x.rhyme(0, 1), 0);
    are(x.begins(1, 11), 0, x.rhyme(1, 1), 11, x.begins(1, 5), 11, x.rhyme(1, 1), 5, x.rhyme(0, 1), 0);
    are(x.says(1, 1), 5, x.says(1, 8), 0);
  }

  @Sentence("-1 either.")
  static void promise05_minus1NoSuchRhyme() {
    are(fourRhymes().begins(0, 0), 0, fourRhymes().begins(3, 0), 0);
    for (int none : new int[] {-1, 4, MIN, MAX}) refused(Promises04To13::fourRhymes, -1, x -> x.begins(none, 0));
    refused(Edge::rich, -1, x -> x.begins(2, 0));
    refused(TinkerTailor::new, -1, x -> x.begins(0, 0));
  }

  @Sentence({"-1 either.", "-1 NOBODY: no such RHYME, EATER, word."})
  static void promise05_minus1NoSuchWord() {
    for (int length = 2; length <= 12; length++) {
      int words = length;
      Maker one = () -> with("r" + words + ";");
      is(one.make().begins(0, words - 1), 0);
      refused(one, -1, x -> x.begins(0, words));
      refused(one, -1, x -> x.begins(0, -1));
    }
    refused(Edge::rich, -1, x -> x.begins(0, 8));
    refused(Edge::rich, -1, x -> x.begins(1, 5));
    refused(Edge::rich, -1, x -> x.begins(0, MAX));
    refused(Edge::rich, -1, x -> x.begins(0, MIN));
    refused(Edge::rich, -1, x -> x.begins(2, 8));
  }

  // ---- promise 6

  @Sentence({"What it SAYS to n stones; -9 n is 0.", "to none -9."})
  static void promise06_minus9ToNone() {
    TinkerTailor x = with("r2;r12;w111;");
    are(x.says(0, 0), -9, x.says(1, 0), -9, x.says(0, 1), 0, x.says(1, 1), 11, x.says(1, 2), 0);
    onlyLooks(Edge::rich, -9, y -> y.says(1, 0));
    is(x.count(12) + x.count(14), 0);
  }

  @Sentence("A RHYME SAYS to n stones (n above 0) the word BEGINS and n less 1, modulo LENGTH")
  static void promise06_roundBehindTheLastWord() {
    for (int length = 2; length <= 12; length++) {
      TinkerTailor x = with("r" + length + ";");
      are(x.says(0, 1), 0, x.says(0, length - 1), length - 2, x.says(0, length), length - 1, x.says(0, length + 1), 0);
      x.begins(0, length - 1);
      are(x.says(0, 1), length - 1, x.says(0, 2), 0, x.says(0, length), length - 2, x.says(0, length + 1), length - 1);
      int word = length - 1;
      for (int n = 1; n <= 30; n++) {
        is(x.says(0, n), word);
        word = word == length - 1 ? 0 : word + 1;
      }
    }
  }

  @Sentence("-1")
  static void promise06_minus1NoSuchRhyme() {
    are(fourRhymes().says(0, 3), 0, fourRhymes().says(3, 3), 2);
    for (int none : new int[] {-1, 4, MIN, MAX}) refused(Promises04To13::fourRhymes, -1, x -> x.says(none, 1));
    refused(Edge::rich, -1, x -> x.says(2, 1));
    refused(TinkerTailor::new, -1, x -> x.says(0, 0));
  }

  @Sentence("-4")
  static void promise06_minus4BelowNone() {
    refused(Edge::rich, -4, x -> x.says(0, -1));
    refused(Edge::rich, -4, x -> x.says(0, MIN));
    is(rich().says(0, 0), -9);
  }

  @Sentence("-6 30000.")
  static void promise06_minus6Above30000() {
    TinkerTailor x = with("r7;");
    are(x.says(0, 29999), 3, x.says(0, 30000), 4, x.count(16), 0); // 29998 is 4285 times 7 and 3
    refused(Edge::rich, -6, y -> y.says(0, 30001));
    refused(Edge::rich, -6, y -> y.says(0, MAX));
  }

  @Sentence({"-1", "-4", "-6 30000."})
  static void promise06_refusalsInTheirOrder() {
    refused(Edge::rich, -1, x -> x.says(2, -1));
    refused(Edge::rich, -1, x -> x.says(2, 30001));
  }

  // ---- promise 7

  @Sentence("Of an EATER: KIND (what 0), FIGURE (1), WISH (2), STONES (3), WORD (4; -9), 1 it HAS its WISH (5).")
  static void promise07_ofAnEater() {
    TinkerTailor x = with("r8;" + FOUR_EATERS);
    int[] due = {0, 0, 0, 0, -9, 0, 1, 1, 1, 1, 0, 0, 2, 2, 2, 2, 1, 0, 3, 3, 3, 3, 2, 0};
    for (int i = 0; i < due.length; i++) is(x.eater(i / 6, i % 6), due[i]);
    onlyLooks(Edge::rich, 1, y -> y.eater(1, 0));
  }

  @Sentence({"An EATER's WORD: what RHYME 0 SAYS to its STONES (without RHYMES -9).", "WORD (4; -9)"})
  static void promise07_wordWithoutRhymesAndWithoutStones() {
    TinkerTailor x = with("e000005;e000000;");
    are(x.eater(0, 4), -9, x.eater(1, 4), -9);
    tell(x, "r2;r9;");
    are(x.eater(0, 4), 0, x.eater(1, 4), -9);
    x.begins(1, 4);
    is(x.eater(0, 4), 0);
    x.begins(0, 1);
    is(x.eater(0, 4), 1);
    x.lay(1, 0, 1);
    is(x.eater(1, 4), 1);
    x.lay(1, 0, 99);
    is(x.eater(1, 4), 1);
  }

  @Sentence({"It HAS its WISH, if its WORD is WISH.", "1 it HAS its WISH (5)"})
  static void promise07_itHasItsWish() {
    TinkerTailor x = with("r12;e001112;");
    is(x.eater(0, 5), 1);
    for (int stones = 0; stones <= 99; stones++) {
      x.lay(0, 0, stones);
      is(x.eater(0, 5), stones > 0 && stones % 12 == 0 ? 1 : 0);
    }
    TinkerTailor none = with("e000000;e000001;");
    are(none.eater(0, 5), 0, none.eater(1, 5), 0, none.count(9), 0);
    is(with("r8;e000800;e000809;").count(9), 0); // 8 words have no word 8
  }

  @Sentence({"-1", "EATERS 0 .. 3 as they come"})
  static void promise07_minus1NoSuchEater() {
    Maker four = () -> with(FOUR_EATERS);
    are(four.make().eater(0, 0), 0, four.make().eater(3, 0), 3);
    for (int none : new int[] {-1, 4, MIN, MAX}) refused(four, -1, x -> x.eater(none, 0));
    is(rich().eater(1, 0), 1);
    refused(Edge::rich, -1, x -> x.eater(2, 0));
    refused(TinkerTailor::new, -1, x -> x.eater(0, 5));
  }

  @Sentence("-2")
  static void promise07_minus2NoSuchWhat() {
    for (int none : new int[] {-1, 6, MIN, MAX}) refused(Edge::rich, -2, x -> x.eater(0, none));
  }

  @Sentence({"-1", "-2"})
  static void promise07_refusalsInTheirOrder() {
    refused(Edge::rich, -1, x -> x.eater(2, 6));
    refused(Edge::rich, -1, x -> x.eater(-1, -1));
  }

  // ---- promise 8

  @Sentence("STONES (what 0), WISH (1) become v: what they were.")
  static void promise08_whatTheyWere() {
    TinkerTailor x = with("r8;" + FOUR_EATERS);
    are(x.lay(3, 0, 99), 3, x.lay(3, 0, 0), 99, x.lay(3, 0, 7), 0, x.eater(3, 3), 7, x.eater(3, 2), 3);
    are(x.lay(3, 1, 11), 3, x.lay(3, 1, 0), 11, x.lay(3, 1, 6), 0, x.eater(3, 2), 6, x.eater(3, 3), 7, x.eater(3, 5), 1);
    are(x.eater(2, 3), 2, x.eater(2, 2), 2, x.lay(0, 0, 5), 0, x.eater(0, 3), 5);
  }

  @Sentence("-1")
  static void promise08_minus1NoSuchEater() {
    Maker four = () -> with(FOUR_EATERS);
    for (int none : new int[] {-1, 4, MIN, MAX}) refused(four, -1, x -> x.lay(none, 0, 0));
    refused(Edge::rich, -1, x -> x.lay(2, 0, 0));
    refused(TinkerTailor::new, -1, x -> x.lay(0, 0, 0));
  }

  @Sentence("-2")
  static void promise08_minus2NoSuchWhat() {
    for (int none : new int[] {-1, 2, MIN, MAX}) refused(Edge::rich, -2, x -> x.lay(0, none, 0));
  }

  @Sentence("-4")
  static void promise08_minus4BelowNone() {
    TinkerTailor x = rich();
    are(x.lay(1, 0, 0), 4, x.lay(1, 1, 0), 3); // by its TURN it has had 4
    refused(Edge::rich, -4, y -> y.lay(0, 0, -1));
    refused(Edge::rich, -4, y -> y.lay(0, 1, -1));
    refused(Edge::rich, -4, y -> y.lay(0, 0, MIN));
    refused(Edge::rich, -4, y -> y.lay(0, 1, MIN));
  }

  @Sentence("-6 (99; 11).")
  static void promise08_minus6Above99And11() {
    TinkerTailor x = with(FOUR_EATERS);
    are(x.lay(0, 0, 98), 0, x.lay(0, 0, 99), 98, x.lay(0, 1, 10), 0, x.lay(0, 1, 11), 10, x.count(16), 0);
    refused(Edge::rich, -6, y -> y.lay(0, 0, 100));
    refused(Edge::rich, -6, y -> y.lay(0, 1, 12));
    refused(Edge::rich, -6, y -> y.lay(0, 1, 99));
    refused(Edge::rich, -6, y -> y.lay(0, 0, MAX));
  }

  @Sentence({"-1", "-2", "-4", "-6 (99; 11)."})
  static void promise08_refusalsInTheirOrder() {
    refused(Edge::rich, -1, x -> x.lay(2, 2, -1));
    refused(Edge::rich, -1, x -> x.lay(2, 0, -1));
    refused(Edge::rich, -1, x -> x.lay(2, 1, 12));
    refused(Edge::rich, -2, x -> x.lay(0, 2, -1));
    refused(Edge::rich, -2, x -> x.lay(0, -1, 100));
  }

  // ---- promise 9

  @Sentence("KIND, FIGURE: 10 times the KIND and the FIGURE it had.")
  static void promise09_whatItHad() {
    TinkerTailor x = with(FOUR_EATERS);
    are(x.kind(3, 5, 9), 33, x.eater(3, 0), 5, x.eater(3, 1), 9, x.kind(3, 0, 0), 59, x.kind(3, 4, 1), 0, x.kind(3, 0, 9), 41);
    are(x.kind(3, 1, 0), 9, x.kind(3, 2, 2), 10, x.eater(2, 0), 2, x.kind(0, 3, 7), 0, x.eater(0, 0), 3, x.eater(0, 1), 7);
    are(x.eater(3, 2), 3, x.eater(3, 3), 3);
  }

  @Sentence("-1")
  static void promise09_minus1NoSuchEater() {
    Maker four = () -> with(FOUR_EATERS);
    for (int none : new int[] {-1, 4, MIN, MAX}) refused(four, -1, x -> x.kind(none, 0, 0));
    refused(Edge::rich, -1, x -> x.kind(2, 0, 0));
    refused(TinkerTailor::new, -1, x -> x.kind(0, 0, 0));
  }

  @Sentence({"-2", "-2 OTHER: what, KIND."})
  static void promise09_minus2NoSuchKind() {
    for (int kind = 0; kind <= 5; kind++) is(rich().kind(0, kind, 1), 23);
    for (int none : new int[] {-1, 6, MIN, MAX}) refused(Edge::rich, -2, x -> x.kind(0, none, 0));
  }

  @Sentence("-4")
  static void promise09_minus4FigureBelowNone() {
    is(rich().kind(0, 2, 0), 23);
    refused(Edge::rich, -4, x -> x.kind(0, 2, -1));
    refused(Edge::rich, -4, x -> x.kind(0, 2, MIN));
  }

  @Sentence("-6 9.")
  static void promise09_minus6FigureAbove9() {
    are(rich().kind(0, 2, 8), 23, rich().kind(0, 2, 9), 23);
    refused(Edge::rich, -6, x -> x.kind(0, 2, 10));
    refused(Edge::rich, -6, x -> x.kind(0, 2, MAX));
  }

  @Sentence({"-1", "-2", "-4", "-6 9."})
  static void promise09_refusalsInTheirOrder() {
    refused(Edge::rich, -1, x -> x.kind(2, 6, -1));
    refused(Edge::rich, -1, x -> x.kind(2, 0, -1));
    refused(Edge::rich, -1, x -> x.kind(2, 0, 10));
    refused(Edge::rich, -2, x -> x.kind(0, 6, -1));
    refused(Edge::rich, -2, x -> x.kind(0, -1, 10));
  }

  // ---- promise 10

  @Sentence("FRUITS (what 0), BUNCH (1), MOST (2), NEXT (3) becomes v: what it was.")
  static void promise10_whatItWas() {
    TinkerTailor x = with(FOUR_EATERS + "b7,34;");
    are(x.set(0, 5), 7, x.set(0, 6), 5, x.count(2), 6, x.set(1, 1), 3, x.set(1, 2), 1, x.count(3), 2);
    are(x.set(2, 5), 4, x.set(2, 6), 5, x.count(4), 6, x.set(3, 3), 0, x.set(3, 1), 3, x.count(5), 1);
    are(x.count(2), 6, x.count(3), 2, x.count(4), 6);
  }

  @Sentence("-2")
  static void promise10_minus2NoSuchWhat() {
    for (int none : new int[] {-1, 4, MIN, MAX}) refused(Edge::rich, -2, x -> x.set(none, 1));
  }

  @Sentence({"for the first three -4,", "FRUITS (0 .. 60; 0 at first), BUNCH (1 .. 4; 2 at first), MOST a turn (1 .. 6; 3 at first)",
      "-4 BELOW: a number below the least."})
  static void promise10_minus4BelowTheLeast() {
    TinkerTailor x = with("b7,34;");
    are(x.set(0, 1), 7, x.set(0, 0), 1, x.set(1, 2), 3, x.set(1, 1), 2, x.set(2, 2), 4, x.set(2, 1), 2);
    refused(Edge::rich, -4, y -> y.set(0, -1));
    refused(Edge::rich, -4, y -> y.set(1, 0));
    refused(Edge::rich, -4, y -> y.set(2, 0));
    for (int what = 0; what < 3; what++) {
      int told = what;
      refused(Edge::rich, -4, y -> y.set(told, -1));
      refused(Edge::rich, -4, y -> y.set(told, MIN));
    }
  }

  @Sentence({"-6 (60; 4; 6)", "-6 ROOM: a number above the greatest, no room."})
  static void promise10_minus6AboveTheGreatest() {
    TinkerTailor x = with("b7,34;");
    are(x.set(0, 59), 7, x.set(0, 60), 59, x.set(1, 3), 3, x.set(1, 4), 3, x.set(2, 5), 4, x.set(2, 6), 5);
    refused(Edge::rich, -6, y -> y.set(0, 61));
    refused(Edge::rich, -6, y -> y.set(1, 5));
    refused(Edge::rich, -6, y -> y.set(2, 7));
    for (int what = 0; what < 3; what++) {
      int told = what;
      refused(Edge::rich, -6, y -> y.set(told, MAX));
    }
  }

  @Sentence("for NEXT -1 no such EATER (also below 0).")
  static void promise10_minus1NextIsNoSuchEater() {
    TinkerTailor x = with(FOUR_EATERS);
    are(x.set(3, 3), 0, x.set(3, 0), 3, x.count(11), 0);
    for (int none : new int[] {-1, 4, MIN, MAX}) refused(() -> with(FOUR_EATERS), -1, y -> y.set(3, none));
    is(rich().set(3, 1), 1);
    refused(Edge::rich, -1, y -> y.set(3, 2));
    refused(Edge::rich, -1, y -> y.set(3, -1));
    refused(() -> with("r8;"), -1, y -> y.set(3, 0));
    refused(TinkerTailor::new, -1, y -> y.set(3, -1));
  }

  @Sentence({"-2", "for the first three -4,"})
  static void promise10_refusalsInTheirOrder() {
    refused(Edge::rich, -2, x -> x.set(4, -1));
    refused(Edge::rich, -2, x -> x.set(4, 99));
    refused(Edge::rich, -2, x -> x.set(-1, -1));
  }

  // ---- promise 11

  /** What one EATER alone takes by a RHYME of 8 words; FRUITS and STONES must tell the same. */
  private static void takes(String eaterAndBowl, int number) {
    takes("r8;", eaterAndBowl, number);
  }

  private static void takes(String rhyme, String eaterAndBowl, int number) {
    TinkerTailor x = with(rhyme + eaterAndBowl);
    int fruits = x.count(2);
    int stones = x.eater(0, 3);
    are(x.turn(), number, x.count(2), fruits - number, x.eater(0, 3), Math.min(99, stones + number), x.count(5), 0);
  }

  @Sentence("A TURN: how many it takes.")
  static void promise11_howManyItTakes() {
    TinkerTailor x = with("r8;e000000;e230000;b5,23;");
    are(x.turn(), 1, x.turn(), 3, x.turn(), 1, x.turn(), 0, x.count(2), 0, x.eater(0, 3), 2, x.eater(1, 3), 3);
  }

  @Sentence("-3 nobody is there.")
  static void promise11_minus3NobodyIsThere() {
    refused(TinkerTailor::new, -3, x -> x.turn());
    refused(() -> with("r8;b9,11;"), -3, x -> x.turn());
    are(with("e000000;b9,11;").turn(), 1, with("e000000;").turn(), 0);
  }

  @Sentence("A TURN: NEXT takes so many FRUITS (no more than there are)")
  static void promise11_noMoreThanThereAre() {
    takes("e250000;b4,23;", 4);
    takes("e250000;b5,23;", 5);
    takes("e250000;b6,23;", 5);
    takes("e250000;b1,23;", 1);
    takes("e000000;b1,23;", 1);
    for (int kind = 0; kind <= 5; kind++) takes("e" + kind + "90000;b0,23;", 0);
  }

  @Sentence("they are STONES on its rim (99 at most: what is more is lost)")
  static void promise11_whatIsMoreThan99IsLost() {
    takes("e290089;b60,23;", 9);
    takes("e290090;b60,23;", 9);
    takes("e290091;b60,23;", 9);
    takes("e290099;b60,23;", 9);
    takes("e000098;b9,23;", 1);
    takes("e000099;b1,23;", 1);
    takes("e400097;b3,23;", 3);
    takes("e500098;b3,23;", 2);
  }

  @Sentence({"EATER 1;", "0 EATER;"})
  static void promise11_eaterTakesOne() {
    takes("e090000;b60,46;", 1);
    takes("e000000;b60,46;", 1);
    takes("", "e000000;b2,46;", 1);
  }

  @Sentence("FREE the least number (0 .. FRUITS) with which it would have its WISH")
  static void promise11_freeTheLeastNumber() {
    takes("e100300;b3,23;", 0);
    takes("e100300;b4,23;", 4);
    takes("e100300;b5,23;", 4);
    takes("e100304;b60,23;", 0); // it HAS it
    takes("e100303;b60,23;", 1);
    takes("e100305;b60,23;", 7);
    takes("e100305;b7,23;", 7);
    takes("e100305;b6,23;", 0);
    takes("e100000;b1,23;", 1); // to none it SAYS no word
    takes("e100700;b8,23;", 8);
    takes("e100700;b7,23;", 0);
    takes("r12;", "e101100;b12,23;", 12);
    takes("r12;", "e101100;b11,23;", 0);
    takes("r12;", "e101112;b12,23;", 0);
    takes("r12;", "e101113;b60,23;", 11);
    takes("r2;", "e100100;b60,23;", 2);
    takes("r2;w001;", "e100100;b60,23;", 1);
  }

  @Sentence("(only a number with which it has 99 STONES at most)")
  static void promise11_freeOnlyWith99StonesAtMost() {
    takes("e100296;b60,23;", 3); // 99 says 2
    takes("e100298;b60,23;", 1);
    takes("e100299;b60,23;", 0);
    takes("e100393;b60,23;", 0); // 100 would say 3
    takes("e100399;b60,23;", 0);
    takes("e100398;b60,23;", 0);
    takes("e100193;b60,23;", 5);
  }

  @Sentence("none such: 0; SPOON")
  static void promise11_freeNoneSuchIsZero() {
    takes("e100700;b60,23;", 8);
    takes("e100800;b60,23;", 0);
    takes("e101100;b60,23;", 0);
    takes("", "e100000;b60,23;", 0);
    takes("", "e100001;b60,23;", 0);
    takes("r2;", "e100200;b60,23;", 0);
  }

  @Sentence("SPOON FIGURE, 1 at least")
  static void promise11_spoonFigureOneAtLeast() {
    takes("e200000;b60,23;", 1);
    takes("e210000;b60,23;", 1);
    takes("e220000;b60,23;", 2);
    takes("e280000;b60,23;", 8);
    takes("e290000;b60,23;", 9);
    takes("e290000;b9,23;", 9);
    takes("e290000;b8,23;", 8);
  }

  @Sentence("HANG the least multiple of BUNCH (0 .. FRUITS) likewise")
  static void promise11_hangTheLeastMultipleOfBunch() {
    takes("e300300;b3,23;", 0);
    takes("e300300;b4,23;", 4);
    takes("e300300;b5,23;", 4);
    takes("e300400;b60,23;", 0); // 5, 13 .. are no pairs
    takes("e300400;b60,13;", 5);
    takes("e300300;b11,33;", 0);
    takes("e300300;b12,33;", 12); // by threes 3 6 9 12
    takes("e300300;b3,43;", 0);
    takes("e300300;b4,43;", 4);
    takes("e300304;b9,43;", 0);
    takes("e300303;b60,43;", 0);
    takes("r11;", "e301000;b43,43;", 0);
    takes("r11;", "e301000;b44,43;", 44); // 44 is the first by fours that is by elevens
    takes("r12;w005;", "e300400;b35,33;", 12);
    takes("r7;", "e300612;b27,43;", 16); // 28 by sevens
  }

  @Sentence({"likewise; PLAY", "99 STONES at most)"})
  static void promise11_hangOnlyWith99StonesAtMost() {
    takes("e300295;b60,43;", 4); // 99 says 2
    takes("e300296;b60,43;", 0);
    takes("e300397;b60,33;", 0); // 100 would say 3
    takes("e300398;b60,23;", 0);
    takes("e300297;b60,23;", 2);
    takes("r11;", "e301055;b44,43;", 0); // it HAS it
    takes("r11;", "e301044;b60,43;", 0);
    takes("r11;", "e301033;b60,43;", 0);
    takes("r11;", "e300955;b60,43;", 32); // 87 by 43; 99 would be 44 ..
    takes("r11;", "e300055;b60,43;", 12);
    takes("r11;", "e300155;b60,43;", 24);
    takes("r11;", "e300656;b60,43;", 28);
    takes("r11;", "e300555;b60,43;", 28);
    takes("", "e300000;b60,23;", 0);
    takes("e300800;b60,13;", 0);
  }

  @Sentence("PLAY the least number of 1 .. MOST by which FRUITS left are a multiple of MOST and 1, none such: 1")
  static void promise11_playTheLeastNumber() {
    for (int most = 1; most <= 6; most++) {
      for (int fruits = 0; fruits <= 60; fruits++) {
        takes("e490000;b" + fruits + ",2" + most + ";", Math.min(fruits, playByTrying(fruits, most)));
      }
    }
    takes("e400000;b3,23;", 3); // none left are a multiple
    takes("e400000;b4,23;", 1);
    takes("e400000;b5,23;", 1);
    takes("e400000;b6,23;", 2);
  }

  private static int playByTrying(int fruits, int most) {
    for (int k = 1; k <= most && k <= fruits; k++) if ((fruits - k) % (most + 1) == 0) return k;
    return 1;
  }

  @Sentence("KINDLY 1 less than a PLAY, 1 at least")
  static void promise11_kindlyOneLessOneAtLeast() {
    for (int most = 1; most <= 6; most++) {
      for (int fruits = 0; fruits <= 60; fruits++) {
        int kindly = Math.max(1, playByTrying(fruits, most) - 1);
        takes("e590000;b" + fruits + ",2" + most + ";", Math.min(fruits, kindly));
      }
    }
    takes("e500000;b4,23;", 1); // PLAY 1
    takes("e500000;b5,23;", 1);
    takes("e500000;b6,23;", 1); // PLAY 2
    takes("e500000;b7,23;", 2); // PLAY 3
    takes("e500000;b6,26;", 5);
  }

  @Sentence("Then NEXT is the one behind it (round).")
  static void promise11_nextIsTheOneBehindRound() {
    TinkerTailor x = with(FOUR_EATERS.replace("e1", "e0") + "b9,23;");
    for (int i = 1; i <= 9; i++) {
      x.turn();
      is(x.count(5), i % 4);
    }
    TinkerTailor y = with("e000000;e000000;"); // no FRUITS
    are(y.turn(), 0, y.count(5), 1, y.turn(), 0, y.count(5), 0);
    TinkerTailor z = with("e000000;b9,23;");
    are(z.turn(), 1, z.count(5), 0);
    are(y.turn(), 0, tell(y, "e000000;"), 1, y.turn(), 0, y.count(5), 2, y.turn(), 0, y.count(5), 0);
  }

  // ---- promise 12

  @Sentence("SUPPER: TURNS (what 0), FRUITS left (1), who HAS its WISH (2, bits).")
  static void promise12_turnsFruitsAndWho() {
    Maker some = () -> with("r8;e000200;e230600;e100800;b10,23;");
    // 1 3 0, 1 3 0, 1 1: 3, 7 and 0 STONES
    onlyLooks(some, 8, x -> x.supper(0));
    onlyLooks(some, 0, x -> x.supper(1));
    onlyLooks(some, 3, x -> x.supper(2));
    TinkerTailor four = with("r2;e000001;e000001;e000001;e000001;");
    are(four.supper(2), 15, four.supper(0), 0);
  }

  @Sentence("SUPPER, in mind: TURN after TURN till no FRUITS are left")
  static void promise12_tillNoFruitsAreLeft() {
    for (int fruits = 0; fruits <= 3; fruits++) {
      TinkerTailor x = with("e000000;b" + fruits + ",23;");
      are(x.supper(0), fruits, x.supper(1), 0, x.behind(0), fruits, x.count(2), fruits, x.eater(0, 3), 0, x.count(17), 0);
    }
    TinkerTailor none = with("r8;e000001;e100900;");
    are(none.supper(0), 0, none.supper(1), 0, none.supper(2), 1);
    TinkerTailor spoon = with("e290000;e200000;b10,23;");
    are(spoon.supper(0), 2, spoon.set(0, 9), 10, spoon.supper(0), 1, spoon.set(0, 11), 9, spoon.supper(0), 3);
  }

  @Sentence("or all EATERS, one behind the other, took none")
  static void promise12_tillAllTookNone() {
    for (int eaters = 1; eaters <= 4; eaters++) {
      StringBuilder text = new StringBuilder("r8;");
      for (int e = 0; e < eaters; e++) text.append("e100800;");
      TinkerTailor x = with(text + "b9,23;");
      are(x.supper(0), eaters, x.supper(1), 9, x.supper(2), 0);
      x.lay(eaters - 1, 1, 0);
      are(x.supper(0), 2 * eaters, x.supper(1), 8, x.supper(2), 1 << eaters - 1);
      x.set(3, eaters - 1);
      are(x.supper(0), 1 + eaters, x.supper(1), 8);
    }
    // one that eats keeps the others at it: only all, one behind the other
    TinkerTailor x = with("r8;e100800;e100800;e000000;b3,23;");
    are(x.supper(0), 9, x.supper(1), 0, x.behind(2), 3);
  }

  @Sentence("(100 TURNS at most): how many TURNS; FRUITS left;")
  static void promise12_hundredTurnsAtMost() {
    TinkerTailor x = with("r8;e000000;e100800;b50,23;");
    are(x.supper(0), 99, x.supper(1), 0);
    x.set(3, 1);
    are(x.supper(0), 100, x.supper(1), 0);
    x.set(0, 51);
    are(x.supper(0), 100, x.supper(1), 1, x.behind(0), 50);
    x.set(3, 0);
    are(x.supper(0), 100, x.supper(1), 1, x.behind(0), 50);
    x.set(0, 60);
    are(x.supper(0), 100, x.supper(1), 10, x.supper(2), 0, x.lay(0, 1, 1), 0, x.supper(2), 1); // 50 says 1
    TinkerTailor slow = with("r8;e000000;e100800;e100800;e100800;b25,23;");
    are(slow.supper(0), 97, slow.supper(1), 0, slow.set(0, 26), 25, slow.supper(0), 100, slow.supper(1), 1);
  }

  @Sentence("-2")
  static void promise12_minus2NoSuchWhat() {
    for (int none : new int[] {-1, 3, MIN, MAX}) refused(Edge::rich, -2, x -> x.supper(none));
  }

  @Sentence("-3 nobody is there.")
  static void promise12_minus3NobodyIsThere() {
    for (int what = 0; what < 3; what++) {
      int told = what;
      refused(() -> with("r8;b9,11;"), -3, x -> x.supper(told));
    }
    is(with("e000000;b9,11;").supper(0), 9);
  }

  @Sentence({"-2", "-3 nobody is there."})
  static void promise12_refusalsInTheirOrder() {
    refused(TinkerTailor::new, -2, x -> x.supper(3));
    refused(TinkerTailor::new, -2, x -> x.supper(-1));
  }

  // ---- promise 13

  @Sentence({"STONES of one behind SUPPER.", "STONES of one; who HAS its WISH (bits) then."})
  static void promise13_stonesOfOneBehindSupper() {
    Maker some = () -> with("r8;e000000;e230095;b10,23;");
    onlyLooks(some, 3, x -> x.behind(0));
    onlyLooks(some, 99, x -> x.behind(1)); // 95, 98, and 99 are all that it holds
    TinkerTailor none = with("e000007;");
    is(none.behind(0), 7);
    are(some.make().lay(1, 0, 92), 95, with("r8;e000000;e230092;b10,23;").behind(1), 99, with("r8;e000000;e230091;b10,23;").behind(1), 98);
  }

  @Sentence("-1")
  static void promise13_minus1NoSuchEater() {
    Maker four = () -> with(FOUR_EATERS);
    are(four.make().behind(0), 0, four.make().behind(3), 3);
    for (int none : new int[] {-1, 4, MIN, MAX}) refused(four, -1, x -> x.behind(none));
    refused(Edge::rich, -1, x -> x.behind(2));
    refused(TinkerTailor::new, -1, x -> x.behind(0));
  }
}
