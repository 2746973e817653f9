/** A new object, letters, TABLES. */
final class Promises01To03 extends Edge {
  // ---- promise 1

  @Sentence("No RHYMES, no EATERS, an empty BOWL.")
  static void promise01_noRhymesNoEatersAnEmptyBowl() {
    TinkerTailor x = new TinkerTailor();
    are(x.count(0), 0, x.count(1), 0, x.count(2), 0);
    refused(TinkerTailor::new, -1, y -> y.rhyme(0, 0));
    refused(TinkerTailor::new, -1, y -> y.eater(0, 0));
    refused(TinkerTailor::new, -3, y -> y.turn());
  }

  @Sentence({"(0 .. 60; 0 at first)", "(1 .. 4; 2 at first)", "(1 .. 6; 3 at first)", "NEXT (whose turn it is; 0 at first)",
      "(4 at most; none at first)"})
  static void promise01_whatIsThereAtFirst() {
    TinkerTailor x = new TinkerTailor();
    are(x.count(2), 0, x.count(3), 2, x.count(4), 3, x.count(5), 0, x.count(10), 0, x.count(18), 0);
    are(x.count(6), 0, x.count(7), 0, x.count(8), 0, x.count(9), 0, x.count(17), 0);
    for (int what = 11; what <= 16; what++) is(x.count(what), 0);
    are(x.set(0, 1), 0, x.set(1, 1), 2, x.set(2, 1), 3);
    are(x.back(), -3, x.restore(), -3, x.move(0, 1), -1);
  }

  private static final String USED = "An object is used for at most 512 calls after it has been made";

  @Sentence(USED)
  static void promise01_the512thCallIsStillAnswered() {
    TinkerTailor x = new TinkerTailor();
    for (int i = 0; i < 511; i++) is(x.row(i % 2 == 0 ? -1 : 100), i % 2 == 0 ? -4 : -6);
    is(x.count(14), 256);
    TinkerTailor z = new TinkerTailor();
    for (int i = 0; i < 511; i++) is(z.feed(256), -6);
    is(z.count(16), 511);
  }

  @Sentence(USED)
  static void promise01_turnsAndSuppersUpTo512Calls() {
    TinkerTailor x = with("r8;e110000;e410000;b60,23;"); // 27 calls
    for (int calls = 27; calls + 5 <= 512; calls += 5) {
      // the second is to move with 59, by 3 less a multiple of 4; it comes to 1 STONE with its third TURN, too
      are(x.turn(), 1, x.last(0), 1, x.scheme(1), 0, x.back(), 0, x.count(2), 60);
    }
  }

  @Sentence(USED)
  static void promise01_whatOneObjectIsToldTheOtherDoesNotKnow() {
    TinkerTailor one = new TinkerTailor();
    TinkerTailor other = new TinkerTailor();
    are(one.feed('r'), 1, other.feed('t'), 1, one.feed('2'), 2, other.feed('t'), 2, one.feed(';'), 3, one.table(), 1, other.table(), -1001);
    are(one.count(1), 1, other.count(1), 0, one.pile(5), 0, other.count(10), 0, one.row(7), 1, other.count(8), 0);
    are(one.set(0, 9), 0, other.set(0, 8), 0, one.image(), 9, other.restore(), -3, other.count(13), 1, one.count(13), 0);
  }

  // ---- promise 2

  @Sentence("A letter comes: how many there are.")
  static void promise02_aLetterComesHowManyThereAre() {
    TinkerTailor x = new TinkerTailor();
    are(x.count(7), 0, x.feed(116), 1, x.count(7), 1, x.feed(59), 2, x.count(7), 2);
    are(x.count(0), 0, x.table(), -2000, x.feed(59), 1);
  }

  @Sentence("-4")
  static void promise02_minus4BelowZero() {
    TinkerTailor x = new TinkerTailor();
    are(x.feed(0), 1, x.feed(1), 2);
    refused(Edge::rich, -4, y -> y.feed(-1));
    refused(Edge::rich, -4, y -> y.feed(MIN));
  }

  @Sentence("-6 (255; 96, too)")
  static void promise02_minus6Above255() {
    TinkerTailor x = new TinkerTailor();
    are(x.feed(254), 1, x.feed(255), 2, x.count(16), 0);
    refused(Edge::rich, -6, y -> y.feed(256));
    refused(Edge::rich, -6, y -> y.feed(MAX));
  }

  private static TinkerTailor lettersSoMany(int n) {
    TinkerTailor x = new TinkerTailor();
    for (int i = 0; i < n; i++) x.feed('t');
    return x;
  }

  @Sentence({"-6 (255; 96, too)", "(96 at most)"})
  static void promise02_minus6Behind96Letters() {
    TinkerTailor x = lettersSoMany(94);
    are(x.feed(114), 95, x.feed(255), 96, x.feed(114), -6, x.feed(0), -6, x.count(7), 96, x.count(16), 2);
    refused(() -> lettersSoMany(96), -6, y -> y.feed(59));
    is(x.table(), -1001);
    are(x.count(7), 0, x.feed(114), 1);
  }

  @Sentence({"-4", "-6 (255; 96, too)"})
  static void promise02_refusalsInTheirOrder() {
    refused(() -> lettersSoMany(96), -4, y -> y.feed(-1));
    refused(() -> lettersSoMany(96), -6, y -> y.feed(256));
  }

  // ---- promise 3

  /** A FAULT: that answer, the letters are gone, nothing is counted, nothing else is otherwise. */
  private static void fault(Maker maker, String text, int answer) {
    TinkerTailor x = maker.make();
    TinkerTailor untouched = maker.make();
    is(tell(x, text), answer);
    is(x.count(7), 0);
    alike(x, untouched, 0);
  }

  private static void fault(String text, int answer) {
    fault(TinkerTailor::new, text, answer);
  }

  /** As rich(), without letters: these would stand ahead of the text. */
  private static TinkerTailor richWithoutLetters() {
    TinkerTailor x = rich();
    x.table();
    return x;
  }

  private static String many(String text, int n) {
    StringBuilder all = new StringBuilder();
    for (int i = 0; i < n; i++) all.append(text);
    return all.toString();
  }

  @Sentence("The letters, which are no more then (with a FAULT neither), are a TABLE: how many STATEMENTS")
  static void promise03_theLettersAreNoMoreThen() {
    TinkerTailor x = new TinkerTailor();
    are(tell(x, "r2;r3;"), 2, x.count(7), 0, x.table(), -1000);
    are(tell(x, "r"), -1001, x.count(7), 0, x.table(), -1000);
    are(tell(x, "r1;"), -2000, x.count(7), 0, x.table(), -1000);
    are(tell(x, "b0,11;"), 1, tell(x, "b0,11;b0,11;"), 2, tell(x, "w000;w100;w000;"), 3);
  }

  @Sentence("the FAULT (nothing is counted).")
  static void promise03_theFaultNothingIsCounted() {
    TinkerTailor x = new TinkerTailor();
    are(tell(x, "e9"), -1002, tell(x, "e900000;"), -2000, tell(x, "t;"), -2000, tell(x, "b61,11;"), -2000);
    for (int what = 11; what <= 16; what++) is(x.count(what), 0);
  }

  @Sentence("A TABLE is told in letters, one by one (96 at most)")
  static void promise03_aTableOf96Letters() {
    TinkerTailor x = new TinkerTailor();
    feed(x, "e000000;" + many("t;", 44));
    are(x.count(7), 96, x.feed(114), -6, x.table(), 45, x.count(7), 0);
    is(tell(x, "e000000;b9,11;" + many("t;", 41)), 43);
    are(x.count(2), 0, x.eater(0, 3), 5, x.eater(1, 3), 4, x.count(5), 1); // 41 TURNS, of which nine find FRUITS
    fault("e000000;" + many("t;", 43) + "t", -1095);
    fault("r2;e000000;" + many("t;", 42) + "t", -1096);
    fault("r2;e000000;" + many("t;", 42) + "x", -1095);
  }

  @Sentence("STATEMENTS, each with \";\" behind")
  static void promise03_eachWithASemicolonBehind() {
    are(tell(new TinkerTailor(), "e000000;t;"), 2, tell(new TinkerTailor(), "r2;r2"), -1005);
    fault("t", -1001);
    fault("t:", -1001);
    fault("t<", -1001);
    fault("t,;", -1001);
    fault("tt;", -1001);
    fault(";", -1000);
    fault("r2;;", -1003);
    fault("r2;;r2;", -1003);
    fault("r2; r2;", -1003);
  }

  @Sentence({"\"r\" LENGTH (1 or 2 digits): a RHYME more", "RHYMES 0 .. 3 as they come", "each with a LENGTH (2 .. 12 words, from 0 on)",
      "and a word it BEGINS with (0 at first)"})
  static void promise03_rLengthOneOrTwoDigits() {
    fault("r;", -1001);
    fault("r/;", -1001);
    fault("r:;", -1001);
    fault("r2/;", -1002);
    fault("r1:;", -1002);
    fault("r,;", -1001);
    fault("r2,;", -1002);
    fault("r002;", -1003);
    fault("r012;", -1003);
    fault("r123;", -1003);
    fault("r12", -1003);
    fault("r1", -1002);
    TinkerTailor x = with("r2;r02;r09;r12;");
    are(x.count(1), 4, x.rhyme(0, 0), 2, x.rhyme(1, 0), 2, x.rhyme(2, 0), 9, x.rhyme(3, 0), 12);
    for (int r = 0; r < 4; r++) is(x.rhyme(r, 1), 0);
  }

  @Sentence({"\"e\" KIND, FIGURE (a digit each), WISH (2 digits), STONES (2 digits): an EATER more", "EATERS 0 .. 3 as they come"})
  static void promise03_eSixDigits() {
    String good = "e000000;";
    is(tell(new TinkerTailor(), good), 1);
    for (int place = 1; place <= 6; place++) {
      for (char other : new char[] {'/', ':', ';', ',', 'e', ' ', 0, 255}) {
        fault(good.substring(0, place) + other + good.substring(place + 1), -1000 - place);
      }
    }
    for (int size = 1; size <= 7; size++) fault(good.substring(0, size), -1000 - size);
    fault("e0000000;", -1007);
    fault("e00000;", -1006);
    TinkerTailor x = with("e120456;e590799;", "e061100;e300000;");
    is(x.count(0), 4);
    int[] due = {1, 2, 4, 56, 5, 9, 7, 99, 0, 6, 11, 0, 3, 0, 0, 0};
    for (int i = 0; i < 16; i++) is(x.eater(i / 4, i % 4), due[i]);
  }

  @Sentence("\"b\" FRUITS (1 or 2 digits), \",\" BUNCH, MOST (a digit each)")
  static void promise03_bFruitsCommaBunchMost() {
    fault("b,11;", -1001);
    fault("b/,11;", -1001);
    fault("b:,11;", -1001);
    fault("b1/,11;", -1002);
    fault("b1:,11;", -1002);
    fault("b1;11;", -1002);
    fault("b1+11;", -1002);
    fault("b1-11;", -1002);
    fault("b001,11;", -1003);
    fault("b11;", -1003);
    fault("b1,;", -1003);
    fault("b1,/1;", -1003);
    fault("b1,:1;", -1003);
    fault("b1,1;", -1004);
    fault("b1,1/;", -1004);
    fault("b1,1:;", -1004);
    fault("b1,111;", -1005);
    fault("b1,11", -1005);
    fault("b12,11", -1006);
    fault("b12,1", -1005);
    fault("b12,", -1004);
    fault("b12", -1003);
    fault("b1", -1002);
    fault("b", -1001);
    TinkerTailor x = with("b7,34;");
    are(x.count(2), 7, x.count(3), 3, x.count(4), 4);
    are(tell(x, "b07,12;"), 1, x.count(2), 7, x.count(3), 1, x.count(4), 2);
    are(tell(x, "b00,11;"), 1, x.count(2), 0);
    are(tell(x, "b59,46;"), 1, x.count(2), 59, x.count(3), 4, x.count(4), 6);
  }

  @Sentence("\"w\" a RHYME (a digit), a word (2 digits): it BEGINS")
  static void promise03_wARhymeAWord() {
    Maker two = () -> with("r2;r12;");
    fault(two, "w", -1001);
    fault(two, "w;", -1001);
    fault(two, "w/00;", -1001);
    fault(two, "w:00;", -1001);
    fault(two, "w0;", -1002);
    fault(two, "w0/0;", -1002);
    fault(two, "w0:0;", -1002);
    fault(two, "w00;", -1003);
    fault(two, "w00/;", -1003);
    fault(two, "w00:;", -1003);
    fault(two, "w0000;", -1004);
    fault(two, "w000", -1004);
    TinkerTailor x = with("r2;r12;w001;w110;");
    are(x.rhyme(0, 1), 1, x.rhyme(1, 1), 10, tell(x, "w101;"), 1, x.rhyme(1, 1), 1, x.rhyme(0, 1), 1);
  }

  @Sentence("\"t\": a TURN.")
  static void promise03_tATurn() {
    TinkerTailor x = with("e000000;e230000;b9,33;t;t;t;");
    are(x.eater(0, 3), 2, x.eater(1, 3), 3, x.count(2), 4, x.count(5), 1);
    fault("t;", -2000);
    fault("t1;", -1001);
  }

  @Sentence("At least one STATEMENT.")
  static void promise03_atLeastOneStatement() {
    fault("", -1000);
    fault(Promises01To03::richWithoutLetters, "", -1000);
    is(tell(new TinkerTailor(), "r2;"), 1);
  }

  @Sentence({"FAULT: kind 1 the place of the first letter with which no TABLE can go on", "-1000 less the place"})
  static void promise03_kind1ThePlaceOfTheFirstLetter() {
    for (int sign = 0; sign <= 255; sign++) {
      boolean begins = "rebwt".indexOf(sign) >= 0;
      fault("" + (char) sign, begins ? -1001 : -1000);
    }
    fault("r8;x", -1003);
    fault("r8;x;y", -1003);
    fault("r8;R8;", -1003);
    fault("r8;e000000;b9,11;w000;t;x;", -1000 - 24);
    fault("r2;" + many("t;", 46) + "x", -1095);
  }

  @Sentence("(the end, if something lacks)")
  static void promise03_theEndIfSomethingLacks() {
    String whole = "r12;e000000;b12,11;w000;t;";
    for (int size = 0; size < whole.length(); size++) {
      String text = whole.substring(0, size);
      if (!text.endsWith(";")) fault(text, -1000 - size);
    }
    is(tell(new TinkerTailor(), whole), 5);
  }

  @Sentence("else kind 2 the place of the first letter of the first STATEMENT that")
  static void promise03_kind1GoesAheadOfKind2() {
    fault("r1;x", -1003);
    fault("r1;r", -1004);
    fault("t;t;t", -1005);
    fault("r1;r2;", -2000);
  }

  @Sentence({"is not as it must be", "-2000 less the place", "the first letter of the first STATEMENT"})
  static void promise03_kind2ThePlaceOfTheFirstLetterOfTheStatement() {
    fault("r1;", -2000);
    fault("r2;r1;", -2003);
    fault("r12;r1;", -2004);
    fault("r2;r1;e900000;", -2003);
    fault("r2;e000000;b9,11;w099;", -2000 - 17);
    fault("r2;e000000;b09,11;w099;", -2000 - 18);
    fault("e000000;" + many("t;", 42) + "r1;", -2000 - 92);
    fault("e000000;" + many("t;", 42) + "r13;", -2000 - 92);
  }

  @Sentence("behind all ahead of it in the text")
  static void promise03_behindAllAheadOfItInTheText() {
    are(tell(new TinkerTailor(), "r2;w001;"), 2, tell(new TinkerTailor(), "e000000;t;"), 2);
    fault("w001;r2;", -2000);
    fault("t;e000000;", -2000);
    fault("r2;t;e000000;", -2003);
    fault("r2;w100;r2;", -2003);
    fault("r2;r2;w101;w201;r2;", -2011);
    fault("r2;r2;r2;r2;r2;", -2012);
    fault(() -> with("r2;"), "r2;r2;r2;r2;", -2009);
  }

  @Sentence({"(a number out of range,", "a LENGTH (2 .. 12 words"})
  static void promise03_lengthOutOfRange() {
    for (String bad : new String[] {"r0;", "r1;", "r00;", "r01;", "r13;", "r14;", "r99;"}) fault(bad, -2000);
    for (int length = 2; length <= 12; length++) is(with("r" + length + ";").rhyme(0, 0), length);
  }

  @Sentence({"(a number out of range,", "of KINDS: 0 EATER; 1 FREE under EATER; 2 SPOON under EATER; 3 HANG under FREE; 4 PLAY under EATER; "
      + "5 KINDLY under PLAY"})
  static void promise03_kindOutOfRange() {
    for (int kind = 0; kind <= 5; kind++) is(with("e" + kind + "00000;").eater(0, 0), kind);
    for (int kind = 6; kind <= 9; kind++) fault("e" + kind + "00000;", -2000);
  }

  @Sentence({"(a number out of range,", "a FIGURE (0 .. 9), a WISH (0 .. 11: a word), STONES on its rim (0 .. 99; 0 at first)"})
  static void promise03_figureWishStonesOutOfRange() {
    for (int figure = 0; figure <= 9; figure++) is(with("e0" + figure + "0000;").eater(0, 1), figure);
    are(with("e000000;").eater(0, 2), 0, with("e001000;").eater(0, 2), 10, with("e001100;").eater(0, 2), 11);
    fault("e001200;", -2000);
    fault("e001300;", -2000);
    fault("e002000;", -2000);
    fault("e009900;", -2000);
    are(with("e000000;").eater(0, 3), 0, with("e000001;").eater(0, 3), 1, with("e000010;").eater(0, 3), 10);
    are(with("e000098;").eater(0, 3), 98, with("e000099;").eater(0, 3), 99);
  }

  @Sentence({"(a number out of range,", "The BOWL has FRUITS (0 .. 60; 0 at first), BUNCH (1 .. 4; 2 at first), MOST a turn (1 .. 6; 3 at first)."})
  static void promise03_fruitsBunchMostOutOfRange() {
    are(with("b0,11;").count(2), 0, with("b1,11;").count(2), 1, with("b59,11;").count(2), 59, with("b60,11;").count(2), 60);
    for (String bad : new String[] {"b61,11;", "b62,11;", "b99,11;", "b1,01;", "b1,51;", "b1,91;", "b1,10;", "b1,17;", "b1,19;"}) {
      fault(bad, -2000);
      fault(Promises01To03::richWithoutLetters, bad, -2000);
    }
    for (int bunch = 1; bunch <= 4; bunch++) is(with("b1," + bunch + "1;").count(3), bunch);
    for (int most = 1; most <= 6; most++) is(with("b1,1" + most + ";").count(4), most);
  }

  @Sentence("no such RHYME,")
  static void promise03_noSuchRhyme() {
    fault("w000;", -2000);
    Maker two = () -> with("r2;r2;");
    is(tell(two.make(), "w100;"), 1);
    fault(two, "w200;", -2000);
    fault(two, "w300;", -2000);
    fault(two, "w900;", -2000);
    Maker four = () -> with("r2;r2;r2;r12;");
    TinkerTailor x = four.make();
    are(tell(x, "w311;"), 1, x.rhyme(3, 1), 11);
    fault(four, "w400;", -2000);
    fault(four, "w900;", -2000);
  }

  @Sentence("a word that it has not,")
  static void promise03_aWordThatItHasNot() {
    for (int length = 2; length <= 12; length++) {
      String rhyme = "r" + length + ";";
      Maker one = () -> with(rhyme);
      TinkerTailor x = one.make();
      are(tell(x, "w0" + (length - 1) / 10 + (length - 1) % 10 + ";"), 1, x.rhyme(0, 1), length - 1);
      are(tell(x, "w000;"), 1, x.rhyme(0, 1), 0);
      fault(one, "w0" + length / 10 + length % 10 + ";", -2000);
    }
    fault(() -> with("r12;"), "w099;", -2000);
  }

  @Sentence("nobody to take a TURN,")
  static void promise03_nobodyToTakeATurn() {
    fault("t;", -2000);
    fault("r2;b9,11;t;", -2009);
    fault(() -> with("r2;b9,11;"), "t;", -2000);
    is(tell(with("e000000;"), "t;"), 1);
  }

  @Sentence("no room): -2000 less the place.")
  static void promise03_noRoom() {
    TinkerTailor x = with("r2;r3;r4;", "e000000;e000000;e000000;");
    are(tell(x, "r5;e110505;"), 2, x.count(0), 4, x.count(1), 4, x.rhyme(3, 0), 5, x.eater(3, 3), 5);
    Maker full = () -> with("r2;r2;r2;r2;", "e000000;e000000;e000000;e000000;");
    fault(full, "r2;", -2000);
    fault(full, "e000000;", -2000);
    fault(full, "b9,11;t;r2;", -2008);
    fault("e000000;e000000;e000000;e000000;e000000;", -2032);
  }

  @Sentence("Without FAULT all of it comes, with one nothing.")
  static void promise03_withoutFaultAllWithOneNothing() {
    Maker rich = Promises01To03::richWithoutLetters;
    fault(rich, "r2;e000000;b1,11;w001;t;r1;", -2000 - 24);
    fault(rich, "r2;e000000;b1,11;w001;t;t", -1000 - 25);
    fault(rich, "r2;e000000;b1,11;w001;t;x", -1000 - 24);
    TinkerTailor x = rich.make();
    is(tell(x, "r2;e000000;b1,11;w001;t;"), 5);
    // 1 is FREE: with one STONE more it would not HAVE its WISH, so the FRUIT stays
    are(x.count(1), 3, x.count(0), 3, x.count(2), 1, x.count(3), 1, x.count(4), 1, x.count(5), 2, x.rhyme(0, 1), 1);
  }
}
