import java.util.ArrayList;
import java.util.Arrays;
import java.util.List;
import java.util.Random;

/**
 * Random runs, answered by the class and by a second, slower reading of the
 * document that tries everything out. The seeds are fixed, so runs are the same.
 */
public final class OracleTest {
  private static final int RUNS = 1500;
  // what an object answers behind 512 calls is free; a round takes fewer than 50, the counts at the end 19
  private static final int CALLS = 440;

  public static void main(String[] args) {
    int wrong = 0;
    for (int run = 0; run < RUNS && wrong < 5; run++) if (!agrees(run)) wrong++;
    System.out.println(wrong == 0 ? RUNS + " random runs agree" : wrong + " runs differ");
    if (wrong != 0) System.exit(1);
  }

  private static boolean agrees(int run) {
    Random random = new Random(run);
    TinkerTailor x = new TinkerTailor();
    Plain p = new Plain();
    List<String> log = new ArrayList<>();
    if (run % 5 != 0) {
      for (char c : Texts.start(random).toCharArray()) if (!step(x, p, log, 0, c)) return false;
      if (!step(x, p, log, 1)) return false;
    }
    while (log.size() < CALLS) {
      int which = random.nextInt(45);
      if (which == 0) {
        String text = Texts.statement(random, p);
        for (char c : text.toCharArray()) if (!step(x, p, log, 0, c)) return false;
        if (random.nextInt(3) != 0 && !step(x, p, log, 1)) return false;
        continue;
      }
      if (which >= 42 && random.nextInt(4) != 0) which = 9;
      int[] a = Calls.arguments(which, random, p);
      if (needsRow(which) && random.nextInt(3) != 0 && !bringRow(x, p, log, which, random, a)) return false;
      if (!step(x, p, log, which, a)) return false;
      if (!step(x, p, log, 44, random.nextInt(19))) return false;
    }
    for (int what = 0; what <= 18; what++) if (!step(x, p, log, 44, what)) return false;
    return true;
  }

  private static boolean needsRow(int which) {
    return which == 13 || which == 21 || which == 22 || which == 24 || which == 25 || which == 27 || which == 36;
  }

  /** A ROW of the length that the call needs, often with numbers that occur. */
  private static boolean bringRow(TinkerTailor x, Plain p, List<String> log, int which, Random random, int[] a) {
    if (!step(x, p, log, 28)) return false;
    int size = which == 13 ? p.rhymes.size() : which == 21 || which == 22 ? 12
        : which == 24 || which == 25 ? p.eaters.size() : random.nextInt(12);
    Plain.Eater[] then = p.behindSupper(random.nextBoolean() ? p.next : p.eaters.isEmpty() ? 0 : random.nextInt(p.eaters.size()));
    Plain mind = p.inMind();
    for (int i = 0; i < size && i < 12; i++) {
      int v = random.nextInt(which == 13 ? 6 : which >= 27 ? 7 : 100);
      if (which == 13 && random.nextInt(3) == 0) v = 99;
      if (which == 36 && random.nextInt(4) == 0) v = random.nextInt(100);
      if ((which == 24 || which == 25) && i < then.length && random.nextInt(9) != 0) v = then[i].stones;
      if (which == 27 && !mind.eaters.isEmpty() && random.nextInt(20) != 0) v = mind.oneTurn();
      if (!step(x, p, log, 26, v)) return false;
    }
    return true;
  }

  private static boolean step(TinkerTailor x, Plain p, List<String> log, int which, int... a) {
    long got = Calls.onClass(x, which, a);
    long want = Calls.onPlain(p, which, a);
    log.add(Calls.NAMES[which] + Arrays.toString(a) + " = " + want);
    if (got == want) return true;
    System.out.println(log.subList(Math.max(0, log.size() - 150), log.size()));
    System.out.println("answered " + got + ", the other reading says " + want);
    return false;
  }

  static final class Texts {
    static String start(Random r) {
      StringBuilder text = new StringBuilder();
      int rhymes = r.nextInt(5);
      int eaters = r.nextInt(5);
      if (r.nextInt(3) == 0) eaters = 2;
      if (r.nextInt(4) != 0) rhymes = Math.max(1, rhymes);
      for (int i = 0; i < rhymes; i++) text.append("r").append(2 + r.nextInt(11)).append(";");
      for (int i = 0; i < eaters; i++) text.append(eater(r));
      text.append("b").append(r.nextInt(61)).append(",").append(1 + r.nextInt(4)).append(1 + r.nextInt(6)).append(";");
      return text.toString();
    }

    private static String eater(Random r) {
      int stones = r.nextInt(3) == 0 ? 90 + r.nextInt(10) : r.nextInt(20);
      return "e" + r.nextInt(6) + r.nextInt(10) + two(r.nextInt(r.nextInt(4) == 0 ? 12 : 5)) + two(stones) + ";";
    }

    static String two(int n) {
      return n < 10 ? "0" + n : "" + n;
    }

    static String statement(Random r, Plain p) {
      StringBuilder text = new StringBuilder();
      int many = r.nextInt(4);
      for (int i = 0; i < many; i++) {
        switch (r.nextInt(6)) {
          case 0: text.append("r").append(r.nextInt(14)).append(";"); break;
          case 1: text.append(eater(r)); break;
          case 2: text.append("b").append(r.nextInt(63)).append(",").append(r.nextInt(6)).append(r.nextInt(8)).append(";"); break;
          case 3: text.append("w").append(r.nextInt(3)).append(two(r.nextInt(9))).append(";"); break;
          case 4: text.append("e").append(r.nextInt(7)).append("1").append(two(r.nextInt(13))).append("07;"); break;
          default: text.append("t;"); break;
        }
      }
      if (r.nextInt(3) == 0 && text.length() > 0) {
        int at = r.nextInt(text.length());
        switch (r.nextInt(3)) {
          case 0: text.deleteCharAt(at); break;
          case 1: text.insert(at, "rebwt;,05".charAt(r.nextInt(9))); break;
          default: text.setLength(at); break;
        }
      }
      return text.toString();
    }
  }

  static final class Calls {
    static final String[] NAMES = {"feed", "table", "rhyme", "begins", "says", "eater", "lay", "kind", "set", "turn", "supper",
        "behind", "both", "both", "shared", "can", "sure", "last", "spoons", "fair", "gift", "petals", "petal", "best", "rims",
        "wished", "row", "judge", "clear", "seeds", "back", "cycle", "same", "rhymed", "pushes", "unknown", "planned", "scheme",
        "pile", "move", "wins", "duel", "image", "restore", "count"};

    /** A number that is mostly in range, at times just outside, at times far. */
    private static int in(Random r, int low, int high) {
      int how = r.nextInt(40);
      if (how == 0) return low - 1;
      if (how == 1) return high + 1;
      if (how == 2) return r.nextBoolean() ? Integer.MAX_VALUE : Integer.MIN_VALUE;
      if (how == 3) return low;
      if (how == 4) return high;
      return high < low ? low : low + r.nextInt(high - low + 1);
    }

    static int[] arguments(int which, Random r, Plain p) {
      int e = in(r, 0, p.eaters.size() - 1);
      int m = in(r, 0, p.rhymes.size() - 1);
      switch (which) {
        case 1: case 9: case 20: case 24: case 27: case 28: case 30: case 31: case 34: case 42: case 43: return new int[0];
        case 2: return new int[] {m, in(r, 0, 1)};
        case 3: return new int[] {m, in(r, 0, 6)};
        case 4: return new int[] {m, in(r, 0, r.nextBoolean() ? 30000 : 12)};
        case 5: return new int[] {e, in(r, 0, 5)};
        case 6: return r.nextInt(3) == 0 ? new int[] {e, 1, in(r, 0, 11)} : new int[] {e, in(r, 0, 1), in(r, 0, r.nextInt(3) == 0 ? 99 : 9)};
        case 7: return new int[] {e, in(r, 0, 5), in(r, 0, 9)};
        case 8: {
          int what = in(r, 0, 3);
          int high = what == 0 ? 60 : what == 1 ? 4 : what == 2 ? 6 : p.eaters.size() - 1;
          return new int[] {what, in(r, what == 1 || what == 2 ? 1 : 0, high)};
        }
        case 10: return new int[] {in(r, 0, 2)};
        case 11: case 21: case 23: case 25: case 37: return new int[] {e};
        case 12: case 13: return new int[] {r.nextInt(3) == 0 ? -1 : in(r, -1, 30000)};
        case 14: case 15: case 17: case 19: case 33: case 36: case 41: return new int[] {in(r, 0, 1)};
        case 16: return new int[] {e, in(r, 0, 1)};
        case 18: return new int[] {e, in(r, 0, r.nextInt(3) == 0 ? 20 : 4), in(r, 0, r.nextInt(2) * 9), in(r, 0, 9),
            r.nextInt(3) == 0 ? 12 : in(r, 0, 12), in(r, 0, 1)};
        case 22: return new int[] {e, in(r, 0, 1)};
        case 26: return new int[] {in(r, 0, 99)};
        case 29: return new int[] {e, in(r, 1, 20), r.nextInt(), in(r, 0, 1)};
        case 32: return new int[] {m, in(r, 0, p.rhymes.size() - 1)};
        case 35: return new int[] {m, in(r, 1, r.nextBoolean() ? 999 : 20), in(r, 0, 5), in(r, 0, 1)};
        case 38: return new int[] {in(r, 0, 12)};
        case 39: return new int[] {in(r, 0, p.piles.size() - 1), in(r, 1, p.most)};
        case 40: return new int[] {in(r, 0, 3)};
        default: return new int[] {in(r, 0, 18)};
      }
    }

    static long onClass(TinkerTailor x, int which, int[] a) {
      switch (which) {
        case 0: return x.feed(a[0]);
        case 1: return x.table();
        case 2: return x.rhyme(a[0], a[1]);
        case 3: return x.begins(a[0], a[1]);
        case 4: return x.says(a[0], a[1]);
        case 5: return x.eater(a[0], a[1]);
        case 6: return x.lay(a[0], a[1], a[2]);
        case 7: return x.kind(a[0], a[1], a[2]);
        case 8: return x.set(a[0], a[1]);
        case 9: return x.turn();
        case 10: return x.supper(a[0]);
        case 11: return x.behind(a[0]);
        case 12: case 13: return x.both(a[0]);
        case 14: return x.shared(a[0]);
        case 15: return x.can(a[0]);
        case 16: return x.sure(a[0], a[1]);
        case 17: return x.last(a[0]);
        case 18: return x.spoons(a[0], a[1], a[2], a[3], a[4], a[5]);
        case 19: return x.fair(a[0]);
        case 20: return x.gift();
        case 21: return x.petals(a[0]);
        case 22: return x.petal(a[0], a[1]);
        case 23: return x.best(a[0]);
        case 24: return x.rims();
        case 25: return x.wished(a[0]);
        case 26: return x.row(a[0]);
        case 27: return x.judge();
        case 28: return x.clear();
        case 29: return x.seeds(a[0], a[1], a[2], a[3]);
        case 30: return x.back();
        case 31: return x.cycle();
        case 32: return x.same(a[0], a[1]);
        case 33: return x.rhymed(a[0]);
        case 34: return x.pushes();
        case 35: return x.unknown(a[0], a[1], a[2], a[3]);
        case 36: return x.planned(a[0]);
        case 37: return x.scheme(a[0]);
        case 38: return x.pile(a[0]);
        case 39: return x.move(a[0], a[1]);
        case 40: return x.wins(a[0]);
        case 41: return x.duel(a[0]);
        case 42: return x.image();
        case 43: return x.restore();
        default: return x.count(a[0]);
      }
    }

    /** A refusal is an exception in the other reading; here it becomes the number, counted. */
    static long onPlain(Plain p, int which, int[] a) {
      boolean isLong = which == 14 || which == 18 || which == 22 || which == 35;
      try {
        return p.answer(which, a);
      } catch (Plain.Refused refusal) {
        p.refused[-refusal.number]++;
        return isLong ? 4000000000000000000L - refusal.number : refusal.number;
      }
    }
  }

  /** The document, read a second time. */
  static final class Plain {
    static final class Refused extends RuntimeException {
      private static final long serialVersionUID = 1L;
      final int number;
      Refused(int number) {
        super(null, null, false, false);
        this.number = number;
      }
    }

    static final class Eater {
      int kind;
      int figure;
      int wish;
      int stones;
      Eater copy() {
        Eater e = new Eater();
        e.kind = kind;
        e.figure = figure;
        e.wish = wish;
        e.stones = stones;
        return e;
      }
    }

    List<int[]> rhymes = new ArrayList<>(); // {length, begins}
    List<Eater> eaters = new ArrayList<>();
    List<Integer> piles = new ArrayList<>();
    int fruits;
    int bunch = 2;
    int most = 3;
    int next;
    final int[] refused = new int[7];
    String letters = "";
    final List<Integer> row = new ArrayList<>();
    final List<int[]> made = new ArrayList<>();
    Plain kept;

    Plain inMind() {
      Plain p = new Plain();
      p.take(this);
      return p;
    }

    void take(Plain from) {
      rhymes = new ArrayList<>();
      for (int[] r : from.rhymes) rhymes.add(r.clone());
      eaters = new ArrayList<>();
      for (Eater e : from.eaters) eaters.add(e.copy());
      piles = new ArrayList<>(from.piles);
      fruits = from.fruits;
      bunch = from.bunch;
      most = from.most;
      next = from.next;
    }

    Eater[] behindSupper(int first) {
      Plain p = inMind();
      p.next = first;
      p.wholeSupper();
      return p.eaters.toArray(new Eater[0]);
    }

    static void no(boolean refuse, int number) {
      if (refuse) throw new Refused(number);
    }

    /** The word by counting round, stone by stone. */
    static int round(int length, int begins, int n) {
      if (n == 0) return -9;
      int word = begins;
      for (int i = 1; i < n; i++) word = word + 1 == length ? 0 : word + 1;
      return word;
    }

    int word(int stones) {
      return rhymes.isEmpty() ? -9 : round(rhymes.get(0)[0], rhymes.get(0)[1], stones);
    }

    boolean happy(int e) {
      return word(eaters.get(e).stones) == eaters.get(e).wish;
    }

    boolean happy(int e, int stones) {
      return word(stones) == eaters.get(e).wish;
    }

    int happyBits() {
      int bits = 0;
      for (int e = 0; e < eaters.size(); e++) if (happy(e)) bits += 1 << e;
      return bits;
    }

    int wants(int e) {
      Eater one = eaters.get(e);
      if (one.kind == 0) return 1;
      if (one.kind == 2) return one.figure == 0 ? 1 : one.figure;
      if (one.kind == 1 || one.kind == 3) {
        for (int k = 0; k <= fruits; k++) {
          boolean whole = one.kind == 1 || k % bunch == 0;
          if (whole && one.stones + k < 100 && happy(e, one.stones + k)) return k;
        }
        return 0;
      }
      int play = 1;
      for (int k = most; k >= 1; k--) if ((fruits - k) % (most + 1) == 0) play = k;
      return one.kind == 4 ? play : play == 1 ? 1 : play - 1;
    }

    int oneTurn() {
      return oneTurn(wants(next));
    }

    int oneTurn(int number) {
      int taken = number > fruits ? fruits : number;
      Eater one = eaters.get(next);
      for (int i = 0; i < taken; i++) {
        fruits--;
        if (one.stones < 99) one.stones++;
      }
      next++;
      if (next == eaters.size()) next = 0;
      return taken;
    }

    int wholeSupper() {
      List<Integer> taken = new ArrayList<>();
      while (!eaters.isEmpty() && fruits > 0 && taken.size() < 100) {
        taken.add(oneTurn());
        int m = eaters.size();
        if (taken.size() >= m) {
          int sum = 0;
          for (int t : taken.subList(taken.size() - m, taken.size())) sum += t;
          if (sum == 0) break;
        }
      }
      return taken.size();
    }

    private void rhymeThere(int r) {
      no(r < 0 || r >= rhymes.size(), -1);
    }

    private void eaterThere(int e) {
      no(e < 0 || e >= eaters.size(), -1);
    }

    private static void what(int what, int high) {
      no(what < 0 || what > high, -2);
    }

    private static void range(int v, int low, int high) {
      no(v < low, -4);
      no(v > high, -6);
    }

    private void rhymed() {
      no(rhymes.isEmpty(), -3);
    }

    private void peopled() {
      no(eaters.isEmpty(), -3);
    }

    long answer(int which, int[] a) {
      switch (which) {
        case 0:
          range(a[0], 0, 255);
          no(letters.length() == 96, -6);
          letters += (char) a[0];
          return letters.length();
        case 1: return table();
        case 2:
          rhymeThere(a[0]);
          what(a[1], 1);
          return rhymes.get(a[0])[a[1]];
        case 3: {
          rhymeThere(a[0]);
          no(a[1] < 0 || a[1] >= rhymes.get(a[0])[0], -1);
          int was = rhymes.get(a[0])[1];
          rhymes.get(a[0])[1] = a[1];
          return was;
        }
        case 4:
          rhymeThere(a[0]);
          range(a[1], 0, 30000);
          return round(rhymes.get(a[0])[0], rhymes.get(a[0])[1], a[1]);
        case 5: {
          eaterThere(a[0]);
          what(a[1], 5);
          Eater e = eaters.get(a[0]);
          return new int[] {e.kind, e.figure, e.wish, e.stones, word(e.stones), happy(a[0]) ? 1 : 0}[a[1]];
        }
        case 6: {
          eaterThere(a[0]);
          what(a[1], 1);
          range(a[2], 0, a[1] == 0 ? 99 : 11);
          Eater e = eaters.get(a[0]);
          int was = a[1] == 0 ? e.stones : e.wish;
          if (a[1] == 0) e.stones = a[2];
          else e.wish = a[2];
          made.clear();
          return was;
        }
        case 7: {
          eaterThere(a[0]);
          what(a[1], 5);
          range(a[2], 0, 9);
          Eater e = eaters.get(a[0]);
          int was = e.kind * 10 + e.figure;
          e.kind = a[1];
          e.figure = a[2];
          made.clear();
          return was;
        }
        case 8: return set(a[0], a[1]);
        case 9: {
          peopled();
          made.add(new int[] {next, fruits, eaters.get(next).stones});
          if (made.size() == 9) made.remove(0);
          return oneTurn();
        }
        case 10: {
          what(a[0], 2);
          peopled();
          Plain p = inMind();
          int turns = p.wholeSupper();
          return a[0] == 0 ? turns : a[0] == 1 ? p.fruits : p.happyBits();
        }
        case 11:
          eaterThere(a[0]);
          return behindSupper(next)[a[0]].stones;
        case 12: case 13: return both(a[0]);
        case 14: {
          what(a[0], 1);
          peopled();
          rhymed();
          return ways(0, fruits, a[0] == 0 ? 1 : bunch);
        }
        case 15: return can(a[0]);
        case 16: {
          eaterThere(a[0]);
          what(a[1], 1);
          rhymed();
          Sure sure = new Sure(this, a[0]);
          boolean can = sure.can(fruits, next, 0);
          if (a[1] == 0) return can ? 1 : 0;
          if (next != a[0]) return -9;
          for (int k = 1; k <= most && k <= fruits; k++) if (sure.can(fruits - k, (next + 1) % eaters.size(), k)) return k;
          return -9;
        }
        case 17: {
          what(a[0], 1);
          no(eaters.size() != 2 || fruits == 0, -3);
          for (int k = 1; k <= most && k <= fruits; k++) if (!takesLast(fruits - k)) return a[0] == 0 ? next : k;
          return a[0] == 0 ? 1 - next : 1;
        }
        case 18: return spoons(a);
        case 19: {
          what(a[0], 1);
          rhymed();
          int[] best = {2, -1};
          for (int length = 2; length <= 12; length++) {
            int n = 0;
            for (Eater e : eaters) if (round(length, rhymes.get(0)[1] % length, e.stones) == e.wish) n++;
            if (n > best[1]) best = new int[] {length, n};
          }
          return best[a[0]];
        }
        case 20: return gift();
        case 21: {
          eaterThere(a[0]);
          no(row.size() != 12 || rhymes.isEmpty(), -3);
          return petals(a[0])[0];
        }
        case 22: {
          eaterThere(a[0]);
          no(row.size() != 12 || rhymes.isEmpty(), -3);
          what(a[1], 1);
          int[] likely = petals(a[0]);
          return least(likely[1], likely[2])[a[1]];
        }
        case 23:
          eaterThere(a[0]);
          for (int kind = 0; kind < 6; kind++) {
            Plain p = inMind();
            p.eaters.get(a[0]).kind = kind;
            p.wholeSupper();
            if (p.happy(a[0])) return kind;
          }
          return -9;
        case 24: {
          no(eaters.isEmpty() || row.size() != eaters.size(), -3);
          int bits = 0;
          for (int first = 0; first < eaters.size(); first++) {
            List<Integer> stones = new ArrayList<>();
            for (Eater e : behindSupper(first)) stones.add(e.stones);
            if (stones.equals(row)) bits += 1 << first;
          }
          return bits;
        }
        case 25: {
          eaterThere(a[0]);
          no(row.size() != eaters.size(), -3);
          int bits = 0;
          for (int word = 0; word < 12; word++) {
            Plain p = inMind();
            p.eaters.get(a[0]).wish = word;
            p.wholeSupper();
            if (p.eaters.get(a[0]).stones == row.get(a[0])) bits += 1 << word;
          }
          return bits;
        }
        case 26:
          range(a[0], 0, 99);
          no(row.size() == 12, -6);
          row.add(a[0]);
          return row.size();
        case 27: {
          Plain p = inMind();
          int answer = -9;
          for (int i = 0; i < row.size() && answer == -9; i++) if (p.eaters.isEmpty() || p.oneTurn() != row.get(i)) answer = i;
          row.clear();
          return answer;
        }
        case 28: {
          int had = row.size();
          row.clear();
          return had;
        }
        case 29: return seeds(a);
        case 30: {
          no(made.isEmpty(), -3);
          int[] turn = made.remove(made.size() - 1);
          next = turn[0];
          fruits = turn[1];
          eaters.get(next).stones = turn[2];
          return next;
        }
        case 31: {
          for (int n = 1;; n++) {
            boolean again = true;
            for (int[] r : rhymes) again &= n % r[0] == 0;
            if (again) return n;
          }
        }
        case 32: {
          rhymeThere(a[0]);
          rhymeThere(a[1]);
          no(a[0] == a[1], -1);
          for (int n = 1; n < 300; n++) {
            if (round(rhymes.get(a[0])[0], rhymes.get(a[0])[1], n) == round(rhymes.get(a[1])[0], rhymes.get(a[1])[1], n)) return n;
          }
          return -9;
        }
        case 33: {
          what(a[0], 1);
          int[] best = {0, -1};
          for (int length = 2; length <= 12; length++) for (int begin = 0; begin < length; begin++) {
            int n = 0;
            for (Eater e : eaters) if (round(length, begin, e.stones) == e.wish) n++;
            if (n > best[1]) best = new int[] {100 * length + begin, n};
          }
          return best[a[0]];
        }
        case 34: {
          rhymed();
          int all = 0;
          for (Eater e : eaters) all += e.stones;
          int pushes = pushes(0, all);
          return pushes > 9999 ? -9 : pushes;
        }
        case 35: {
          rhymeThere(a[0]);
          no(a[2] < 0 || a[2] >= rhymes.get(a[0])[0], -1);
          range(a[1], 1, 999);
          what(a[3], 1);
          int n = 0;
          for (int i = 1; i <= a[1]; i++) if (round(rhymes.get(a[0])[0], rhymes.get(a[0])[1], i) == a[2]) n++;
          return least(n, a[1])[a[3]];
        }
        case 36: {
          what(a[0], 1);
          peopled();
          Plain p = inMind();
          for (int v : row) p.oneTurn(v);
          return a[0] == 0 ? p.happyBits() : p.fruits;
        }
        case 37:
          eaterThere(a[0]);
          rhymed();
          return scheme(a[0], 0, -1);
        case 38:
          range(a[0], 0, 12);
          no(piles.size() == 4, -6);
          piles.add(a[0]);
          return piles.size() - 1;
        case 39:
          no(a[0] < 0 || a[0] >= piles.size(), -1);
          range(a[1], 1, most);
          no(a[1] > piles.get(a[0]), -6);
          piles.set(a[0], piles.get(a[0]) - a[1]);
          return piles.get(a[0]);
        case 40: return wins(a[0]);
        case 41: {
          what(a[0], 1);
          no(eaters.size() != 2 || rhymes.isEmpty(), -3);
          return new Duel(this).end(fruits, next, 0)[a[0]];
        }
        case 42:
          kept = inMind();
          return fruits;
        case 43:
          no(kept == null, -3);
          take(kept);
          made.clear();
          return fruits;
        default: return count(a[0]);
      }
    }

    private long count(int what) {
      int stones = 0;
      for (Eater e : eaters) stones += e.stones;
      int piled = 0;
      for (int p : piles) piled += p;
      long[] all = {eaters.size(), rhymes.size(), fruits, bunch, most, next, stones, letters.length(), row.size(), happyBits(),
          piles.size(), refused[1], refused[2], refused[3], refused[4], refused[5], refused[6], made.size(), piled};
      return what < 0 || what > 18 ? -9 : all[what];
    }

    private long set(int what, int v) {
      what(what, 3);
      if (what < 3) range(v, what == 0 ? 0 : 1, new int[] {60, 4, 6}[what]);
      else eaterThere(v);
      int was = new int[] {fruits, bunch, most, next}[what];
      if (what == 0) fruits = v;
      if (what == 1) bunch = v;
      if (what == 2) most = v;
      if (what == 3) next = v;
      made.clear();
      return was;
    }

    /** Whether a beginning of the text can go on to be a TABLE. */
    private static boolean canGoOn(String text) {
      return text.matches("(r\\d{1,2};|e\\d{6};|b\\d{1,2},\\d\\d;|w\\d{3};|t;)*(r\\d{0,2}|e\\d{0,6}|b\\d{0,2}|b\\d{1,2},\\d{0,2}|w\\d{0,3}|t)?");
    }

    private long table() {
      String text = letters;
      letters = "";
      for (int i = 1; i <= text.length(); i++) if (!canGoOn(text.substring(0, i))) return -1000 - (i - 1);
      if (!text.endsWith(";")) return -1000 - text.length();
      Plain p = inMind();
      int at = 0;
      int many = 0;
      for (String s : text.split(";")) {
        if (!p.comes(s)) return -2000 - at;
        at += s.length() + 1;
        many++;
      }
      take(p);
      made.clear();
      return many;
    }

    private boolean comes(String s) {
      if (s.equals("t")) {
        if (eaters.isEmpty()) return false;
        oneTurn();
        return true;
      }
      if (s.startsWith("r")) {
        int length = Integer.parseInt(s.substring(1));
        if (length < 2 || length > 12 || rhymes.size() == 4) return false;
        rhymes.add(new int[] {length, 0});
        return true;
      }
      if (s.startsWith("w")) {
        int r = s.charAt(1) - '0';
        int word = Integer.parseInt(s.substring(2));
        if (r >= rhymes.size() || word >= rhymes.get(r)[0]) return false;
        rhymes.get(r)[1] = word;
        return true;
      }
      if (s.startsWith("b")) {
        int comma = s.indexOf(',');
        int f = Integer.parseInt(s.substring(1, comma));
        int b = s.charAt(comma + 1) - '0';
        int m = s.charAt(comma + 2) - '0';
        if (f > 60 || b == 0 || b > 4 || m == 0 || m > 6) return false;
        fruits = f;
        bunch = b;
        most = m;
        return true;
      }
      Eater e = new Eater();
      e.kind = s.charAt(1) - '0';
      e.figure = s.charAt(2) - '0';
      e.wish = Integer.parseInt(s.substring(3, 5));
      e.stones = Integer.parseInt(s.substring(5));
      if (e.kind > 5 || e.wish > 11 || eaters.size() == 4) return false;
      eaters.add(e);
      return true;
    }

    private long both(int n) {
      range(n, -1, 30000);
      no(rhymes.isEmpty() || row.size() != rhymes.size(), -3);
      int least = -9;
      int many = 0;
      for (int i = 1; i <= 30000; i++) {
        boolean fits = true;
        for (int r = 0; r < row.size() && fits; r++) {
          int length = rhymes.get(r)[0];
          fits = row.get(r) == 99 || (rhymes.get(r)[1] + i - 1) % length == row.get(r);
        }
        if (fits && least == -9) least = i;
        if (fits && i <= n) many++;
      }
      return n == -1 ? least : many;
    }

    private long ways(int e, int left, int unit) {
      if (e == eaters.size()) return left == 0 ? 1 : 0;
      long sum = 0;
      for (int k = 0; k <= left; k += unit) if (happy(e, eaters.get(e).stones + k)) sum += ways(e + 1, left - k, unit);
      return sum;
    }

    private boolean shareable(int e, int left, int bits) {
      if (e == eaters.size()) return left == 0;
      for (int k = 0; k <= left; k++) {
        boolean fits = (bits >> e & 1) == 0 || happy(e, eaters.get(e).stones + k);
        if (fits && shareable(e + 1, left - k, bits)) return true;
      }
      return false;
    }

    private long can(int what) {
      what(what, 1);
      peopled();
      rhymed();
      for (int many = eaters.size();; many--) {
        for (int bits = 0; bits < 1 << eaters.size(); bits++) {
          if (Integer.bitCount(bits) == many && shareable(0, fruits, bits)) return what == 0 ? many : bits;
        }
      }
    }

    static final class Sure {
      final Plain p;
      final int one;
      final Boolean[][][] known = new Boolean[61][4][61];
      Sure(Plain p, int one) {
        this.p = p;
        this.one = one;
      }
      boolean can(int left, int who, int taken) {
        if (left == 0) return p.happy(one, p.eaters.get(one).stones + taken);
        if (known[left][who][taken] != null) return known[left][who][taken];
        boolean some = false;
        boolean all = true;
        for (int k = 1; k <= p.most && k <= left; k++) {
          boolean good = can(left - k, (who + 1) % p.eaters.size(), who == one ? taken + k : taken);
          some |= good;
          all &= good;
        }
        known[left][who][taken] = who == one ? some : all;
        return known[left][who][taken];
      }
    }

    /** Whether the one to take can take the last of so many. */
    private boolean takesLast(int left) {
      boolean[] can = new boolean[61];
      for (int n = 1; n <= left; n++) for (int k = 1; k <= most && k <= n; k++) can[n] |= !can[n - k];
      return can[left];
    }

    private static long[] least(long above, long below) {
      if (above == 0) return new long[] {0, 1};
      for (long d = Math.min(above, below); d > 1; d--) if (above % d == 0 && below % d == 0) return new long[] {above / d, below / d};
      return new long[] {above, below};
    }

    private long spoons(int[] a) {
      eaterThere(a[0]);
      no(a[4] < 0 || a[4] > 12, -1);
      no(a[1] < 0 || a[2] < 0 || a[3] < 0, -4);
      no(a[1] > 20 || a[2] > 9 || a[3] > 9, -6);
      what(a[5], 1);
      rhymed();
      long[] sums = new long[300];
      sums[eaters.get(a[0]).stones] = 1;
      for (int i = 0; i < a[1]; i++) {
        long[] more = new long[300];
        for (int s = 0; s < 290; s++) {
          more[s + a[2]] += sums[s];
          more[s + a[3]] += sums[s];
        }
        sums = more;
      }
      long good = 0;
      for (int s = 0; s < 300; s++) if (word(s) == (a[4] == 12 ? -9 : a[4])) good += sums[s];
      return least(good, 1L << a[1])[a[5]];
    }

    private long gift() {
      rhymed();
      int most = Integer.bitCount(happyBits());
      long best = -9;
      for (int code = 0; code < 400; code++) {
        int giver = code / 100;
        int other = code / 10 % 10;
        int k = code % 10;
        if (k < 1 || k > 3 || giver >= eaters.size() || other >= eaters.size() || giver == other) continue;
        Plain p = inMind();
        p.eaters.get(giver).stones -= k;
        p.eaters.get(other).stones += k;
        if (p.eaters.get(giver).stones < 0 || p.eaters.get(other).stones > 99) continue;
        if (Integer.bitCount(p.happyBits()) > most) {
          most = Integer.bitCount(p.happyBits());
          best = code;
        }
      }
      return best;
    }

    private int[] petals(int e) {
      int[] best = {0, -1, 0};
      int all = 0;
      for (int w : row) all += w;
      for (int begin = 0; begin < rhymes.get(0)[0]; begin++) {
        int good = 0;
        for (int s = 1; s <= 12; s++) if (round(rhymes.get(0)[0], begin, s) == eaters.get(e).wish) good += row.get(s - 1);
        if (good > best[1]) best = new int[] {begin, good, all};
      }
      return best;
    }

    private long seeds(int[] a) {
      eaterThere(a[0]);
      range(a[1], 1, 20);
      what(a[3], 1);
      long z = a[2];
      int often = 0;
      int left = 0;
      for (int i = 0; i < a[1]; i++) {
        Plain p = inMind();
        z = (int) (z * 1103515245L + 12345L);
        p.fruits = (int) ((z & Integer.MAX_VALUE) >> 16) % 61;
        z = (int) (z * 1103515245L + 12345L);
        p.next = (int) ((z & Integer.MAX_VALUE) >> 16) % eaters.size();
        p.wholeSupper();
        if (p.happy(a[0])) often++;
        left += p.fruits;
      }
      return a[3] == 0 ? often : left;
    }

    private int pushes(int e, int left) {
      if (e == eaters.size()) return left == 0 ? 0 : 100000;
      if (e == eaters.size() - 1) {
        boolean fits = left <= 99 && happy(e, left);
        return fits ? Math.max(0, left - eaters.get(e).stones) : 100000;
      }
      int best = 100000;
      for (int s = 0; s <= left && s <= 99; s++) {
        if (happy(e, s)) best = Math.min(best, Math.max(0, s - eaters.get(e).stones) + pushes(e + 1, left - s));
      }
      return best;
    }

    /** The least first number of one that lets it HAVE its WISH; turns that went by; its first number so far (-1 none). */
    private int scheme(int one, int turns, int first) {
      if (fruits == 0 || turns == 6) return happy(one) ? Math.max(0, first) : -9;
      if (next != one) {
        Plain p = inMind();
        p.oneTurn();
        return p.scheme(one, turns + 1, first);
      }
      if (eaters.size() == 1 && turns > 2) return schemeAlone(turns, first);
      for (int k = 0; k <= most && k <= fruits; k++) {
        Plain p = inMind();
        p.oneTurn(k);
        int answer = p.scheme(one, turns + 1, first < 0 ? k : first);
        if (answer != -9) return answer;
      }
      return -9;
    }

    private int schemeAlone(int turns, int first) {
      for (int all = 0; all <= most * (6 - turns); all++) {
        Plain p = inMind();
        p.oneTurn(all);
        if (p.happy(0)) return first;
      }
      return -9;
    }

    private long wins(int what) {
      what(what, 3);
      boolean[] known = new boolean[13 * 13 * 13 * 13];
      boolean[] good = new boolean[13 * 13 * 13 * 13];
      int[] now = new int[4];
      for (int i = 0; i < piles.size(); i++) now[i] = piles.get(i);
      boolean lastLoses = what % 2 == 1;
      if (what < 2) return moverWins(now, lastLoses, known, good) ? 1 : 0;
      for (int i = 0; i < 4; i++) for (int k = 1; k <= most && k <= now[i]; k++) {
        now[i] -= k;
        boolean lost = !moverWins(now, lastLoses, known, good);
        now[i] += k;
        if (lost) return 10 * i + k;
      }
      return -9;
    }

    private boolean moverWins(int[] now, boolean lastLoses, boolean[] known, boolean[] good) {
      int code = ((now[0] * 13 + now[1]) * 13 + now[2]) * 13 + now[3];
      if (code == 0) return lastLoses;
      if (known[code]) return good[code];
      boolean some = false;
      for (int i = 0; i < 4 && !some; i++) for (int k = 1; k <= most && k <= now[i] && !some; k++) {
        now[i] -= k;
        some = !moverWins(now, lastLoses, known, good);
        now[i] += k;
      }
      known[code] = true;
      good[code] = some;
      return some;
    }

    static final class Duel {
      final Plain p;
      final int[][][][] known = new int[61][2][61][];
      Duel(Plain p) {
        this.p = p;
      }
      int[] end(int left, int who, int taken) {
        if (known[left][who][taken] != null) return known[left][who][taken];
        int[] best = null;
        if (left == 0) {
          boolean a = p.happy(0, p.eaters.get(0).stones + taken);
          boolean b = p.happy(1, p.eaters.get(1).stones + p.fruits - taken);
          best = new int[] {(a ? 1 : 0) | (b ? 2 : 0), 0};
        }
        int worth = -1;
        for (int k = 1; k <= p.most && k <= left; k++) {
          int bits = end(left - k, 1 - who, who == 0 ? taken + k : taken)[0];
          int mine = (bits & 1 << who) != 0 ? 2 : 0;
          int spite = (bits & 2 >> who) == 0 ? 1 : 0;
          if (mine + spite > worth) {
            worth = mine + spite;
            best = new int[] {bits, k};
          }
        }
        known[left][who][taken] = best;
        return best;
      }
    }
  }
}
