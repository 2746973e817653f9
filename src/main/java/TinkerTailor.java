/**
 * Stones on the rims of plates, counted round by rhymes to a wish.
 * The words in capitals are those of the document.
 */
public final class TinkerTailor {
  private static final int NOBODY = -1;
  private static final int OTHER = -2;
  private static final int STATE = -3;
  private static final int BELOW = -4;
  private static final int ROOM = -6;
  private static final int NONE = -9;
  private static final long LONG_REFUSAL = 4000000000000000000L;

  private static final int SEATS = 4;
  private static final int SHORTEST = 2;
  private static final int LONGEST = 12;
  private static final int WORDS = 12;
  private static final int MOST_FRUITS = 60;
  private static final int MOST_BUNCH = 4;
  private static final int MOST_A_TURN = 6;
  private static final int MOST_STONES = 99;
  private static final int MOST_FIGURE = 9;
  private static final int MOST_COUNTED = 30000;
  private static final int MOST_UNKNOWN = 999;
  private static final int MOST_SPOONS = 20;
  private static final int MOST_SUPPERS = 20;
  private static final int MOST_ON_PILE = 12;
  private static final int LONGEST_SUPPER = 100;
  private static final int SCHEMED_TURNS = 6;
  private static final int ROW_ROOM = 12;
  private static final int ANY_WORD = 99;

  private static final int FREE = 1;
  private static final int SPOON = 2;
  private static final int HANG = 3;
  private static final int PLAY = 4;
  private static final int KINDLY = 5;
  private static final int KINDS = 6;

  private final Board now = new Board();
  private final Board mind = new Board();
  private final Board kept = new Board();
  private boolean isKept;
  private final Letters letters = new Letters();
  private final Past past = new Past();
  private final int[] told = new int[ROW_ROOM];
  private int toldCount;
  private final int[] refused = new int[7];
  private final Games games = new Games();
  private final Shares shares = new Shares();

  public TinkerTailor() {
  }

  // ---- letters and tables

  public int feed(int letter) {
    if (letter < 0) return refuse(BELOW);
    if (letter > 255 || !letters.hasRoom()) return refuse(ROOM);
    letters.add(letter);
    return letters.size;
  }

  public int table() {
    int wrong = letters.wrongPlace();
    int size = letters.size;
    int statements = 0;
    int at = 0;
    mind.copyFrom(now);
    while (wrong < 0 && at < size && letters.bring(mind, at)) {
      statements++;
      at = Math.max(at + 1, letters.endOf(at));
    }
    letters.size = 0;
    if (wrong >= 0) return -1000 - wrong;
    if (at < size) return -2000 - at;
    now.copyFrom(mind);
    past.forget();
    return statements;
  }

  // ---- rhymes

  public int rhyme(int rhyme, int what) {
    if (!now.hasRhyme(rhyme)) return refuse(NOBODY);
    if (what != 0 && what != 1) return refuse(OTHER);
    return what == 0 ? now.lengths[rhyme] : now.firsts[rhyme];
  }

  public int begins(int rhyme, int word) {
    if (!now.hasWord(rhyme, word)) return refuse(NOBODY);
    int was = now.firsts[rhyme];
    now.firsts[rhyme] = word;
    return was;
  }

  public int says(int rhyme, int n) {
    if (!now.hasRhyme(rhyme)) return refuse(NOBODY);
    if (n < 0) return refuse(BELOW);
    if (n > MOST_COUNTED) return refuse(ROOM);
    return now.wordTo(rhyme, n);
  }

  public int both(int n) {
    if (n < -1) return refuse(BELOW);
    if (n > MOST_COUNTED) return refuse(ROOM);
    if (now.rhymeCount == 0 || toldCount != now.rhymeCount) return refuse(STATE);
    int least = leastSaidByAll();
    if (n == -1) return least;
    if (least == NONE || least > n) return 0;
    int cycle = cycleOfTold();
    return cycle < 1 ? 0 : (n - least) / cycle + 1;
  }

  /**
   * Numbers that suit the RHYMES seen so far lie one common cycle apart, so
   * each further RHYME is sought along them only, no further than its LENGTH.
   */
  private int leastSaidByAll() {
    int n = 1;
    int step = 1;
    for (int r = 0; r < now.rhymeCount && r < toldCount; r++) {
      if (told[r] == ANY_WORD) continue;
      int tries = 0;
      while (tries < LONGEST && now.wordTo(r, n) != told[r]) {
        n += step;
        tries++;
      }
      if (now.wordTo(r, n) != told[r]) return NONE;
      step = commonMultiple(step, now.lengths[r]);
    }
    return n;
  }

  private int cycleOfTold() {
    int cycle = 1;
    for (int r = 0; r < now.rhymeCount && r < toldCount; r++) {
      if (told[r] != ANY_WORD) cycle = commonMultiple(cycle, now.lengths[r]);
    }
    return cycle;
  }

  public int cycle() {
    int cycle = 1;
    for (int r = 0; r < now.rhymeCount; r++) cycle = commonMultiple(cycle, now.lengths[r]);
    return cycle;
  }

  public int same(int one, int other) {
    if (!now.hasRhyme(one) || !now.hasRhyme(other) || one == other) return refuse(NOBODY);
    int cycle = commonMultiple(now.lengths[one], now.lengths[other]);
    for (int n = 1; n <= cycle; n++) {
      if (now.wordTo(one, n) == now.wordTo(other, n)) return n;
    }
    return NONE;
  }

  public int fair(int what) {
    if (what != 0 && what != 1) return refuse(OTHER);
    if (now.rhymeCount == 0) return refuse(STATE);
    int best = SHORTEST;
    int most = -1;
    for (int length = SHORTEST; length <= LONGEST; length++) {
      int pleased = now.pleasedBy(length, now.firsts[0] % length);
      if (pleased > most) {
        most = pleased;
        best = length;
      }
    }
    return what == 0 ? best : most;
  }

  public int rhymed(int what) {
    if (what != 0 && what != 1) return refuse(OTHER);
    int best = 100 * SHORTEST;
    int most = -1;
    for (int length = SHORTEST; length <= LONGEST; length++) {
      for (int word = 0; word < length; word++) {
        int pleased = now.pleasedBy(length, word);
        if (pleased > most) {
          most = pleased;
          best = 100 * length + word;
        }
      }
    }
    return what == 0 ? best : most;
  }

  // ---- eaters, the bowl, turns

  public int eater(int eater, int what) {
    if (!now.hasEater(eater)) return refuse(NOBODY);
    switch (what) {
      case 0: return now.kinds[eater];
      case 1: return now.figures[eater];
      case 2: return now.wishes[eater];
      case 3: return now.stones[eater];
      case 4: return now.wordTo(0, now.stones[eater]);
      case 5: return now.isPleased(eater) ? 1 : 0;
      default: return refuse(OTHER);
    }
  }

  public int lay(int eater, int what, int v) {
    if (!now.hasEater(eater)) return refuse(NOBODY);
    if (what != 0 && what != 1) return refuse(OTHER);
    if (v < 0) return refuse(BELOW);
    if (v > (what == 0 ? MOST_STONES : WORDS - 1)) return refuse(ROOM);
    int[] held = what == 0 ? now.stones : now.wishes;
    int was = held[eater];
    held[eater] = v;
    past.forget();
    return was;
  }

  public int kind(int eater, int kind, int figure) {
    if (!now.hasEater(eater)) return refuse(NOBODY);
    if (kind < 0 || kind >= KINDS) return refuse(OTHER);
    if (figure < 0) return refuse(BELOW);
    if (figure > MOST_FIGURE) return refuse(ROOM);
    int was = 10 * now.kinds[eater] + now.figures[eater];
    now.kinds[eater] = kind;
    now.figures[eater] = figure;
    past.forget();
    return was;
  }

  public int set(int what, int v) {
    int refusal = refusalToSet(what, v);
    if (refusal != 0) return refuse(refusal);
    int was;
    switch (what) {
      case 0:
        was = now.fruits;
        now.fruits = v;
        break;
      case 1:
        was = now.bunch;
        now.bunch = v;
        break;
      case 2:
        was = now.most;
        now.most = v;
        break;
      default:
        was = now.next;
        now.next = v;
        break;
    }
    past.forget();
    return was;
  }

  private int refusalToSet(int what, int v) {
    if (what < 0 || what > 3) return OTHER;
    if (what == 3) return now.hasEater(v) ? 0 : NOBODY;
    if (v < (what == 0 ? 0 : 1)) return BELOW;
    int greatest = what == 0 ? MOST_FRUITS : what == 1 ? MOST_BUNCH : MOST_A_TURN;
    return v > greatest ? ROOM : 0;
  }

  public int turn() {
    if (now.eaterCount == 0) return refuse(STATE);
    past.remember(now);
    return now.takeTurn();
  }

  public int back() {
    if (past.size == 0) return refuse(STATE);
    return past.undo(now);
  }

  // ---- suppers in mind

  public int supper(int what) {
    if (what < 0 || what > 2) return refuse(OTHER);
    if (now.eaterCount == 0) return refuse(STATE);
    mind.copyFrom(now);
    int turns = mind.eatUp();
    if (what == 0) return turns;
    return what == 1 ? mind.fruits : mind.pleasedBits();
  }

  public int behind(int eater) {
    if (!now.hasEater(eater)) return refuse(NOBODY);
    mind.copyFrom(now);
    mind.eatUp();
    return mind.stones[eater];
  }

  public int best(int eater) {
    if (!now.hasEater(eater)) return refuse(NOBODY);
    for (int kind = 0; kind < KINDS; kind++) {
      mind.copyFrom(now);
      mind.kinds[eater] = kind;
      mind.eatUp();
      if (mind.isPleased(eater)) return kind;
    }
    return NONE;
  }

  public int rims() {
    if (now.eaterCount == 0 || toldCount != now.eaterCount) return refuse(STATE);
    int bits = 0;
    for (int first = 0; first < now.eaterCount; first++) {
      mind.copyFrom(now);
      mind.next = first;
      mind.eatUp();
      if (bringsTold(mind)) bits |= 1 << first;
    }
    return bits;
  }

  private boolean bringsTold(Board board) {
    for (int e = 0; e < board.eaterCount && e < toldCount; e++) {
      if (board.stones[e] != told[e]) return false;
    }
    return true;
  }

  public int wished(int eater) {
    if (!now.hasEater(eater)) return refuse(NOBODY);
    if (toldCount != now.eaterCount) return refuse(STATE);
    int bits = 0;
    for (int word = 0; word < WORDS; word++) {
      mind.copyFrom(now);
      mind.wishes[eater] = word;
      mind.eatUp();
      if (mind.stones[eater] == told[eater]) bits |= 1 << word;
    }
    return bits;
  }

  public int seeds(int eater, int n, int z, int what) {
    if (!now.hasEater(eater)) return refuse(NOBODY);
    if (n < 1) return refuse(BELOW);
    if (n > MOST_SUPPERS) return refuse(ROOM);
    if (what != 0 && what != 1) return refuse(OTHER);
    int seed = z;
    int often = 0;
    int left = 0;
    for (int i = 0; i < n; i++) {
      mind.copyFrom(now);
      seed = nextSeed(seed);
      mind.fruits = drawBelow(seed, MOST_FRUITS + 1);
      seed = nextSeed(seed);
      mind.next = drawBelow(seed, now.eaterCount);
      mind.eatUp();
      if (mind.isPleased(eater)) often++;
      left += mind.fruits;
    }
    return what == 0 ? often : left;
  }

  private static int nextSeed(int seed) {
    return seed * 1103515245 + 12345;
  }

  private static int drawBelow(int seed, int n) {
    return n < 1 ? 0 : ((seed & 0x7fffffff) / 65536) % n;
  }

  public int judge() {
    int answer = firstNotSo();
    toldCount = 0;
    return answer;
  }

  private int firstNotSo() {
    mind.copyFrom(now);
    for (int i = 0; i < toldCount; i++) {
      if (mind.eaterCount == 0 || mind.takeTurn() != told[i]) return i;
    }
    return NONE;
  }

  public int planned(int what) {
    if (what != 0 && what != 1) return refuse(OTHER);
    if (now.eaterCount == 0) return refuse(STATE);
    mind.copyFrom(now);
    for (int i = 0; i < toldCount; i++) mind.take(told[i]);
    return what == 0 ? mind.pleasedBits() : mind.fruits;
  }

  // ---- schemes

  public int scheme(int eater) {
    if (!now.hasEater(eater)) return refuse(NOBODY);
    if (now.rhymeCount == 0) return refuse(STATE);
    mind.copyFrom(now);
    int turns = SCHEMED_TURNS;
    while (turns > 0 && mind.fruits > 0 && mind.next != eater) {
      mind.takeTurn();
      turns--;
    }
    if (turns == 0 || mind.fruits == 0) return mind.isPleased(eater) ? 0 : NONE;
    int greatest = Math.min(mind.most, mind.fruits);
    for (int k = 0; k <= greatest; k++) {
      if (numberLeadsToWish(mind, eater, k, turns)) return k;
    }
    return NONE;
  }

  /** TURNS are at most SCHEMED_TURNS, which bounds the depth; the board is as before in the end. */
  private static boolean numberLeadsToWish(Board board, int one, int number, int turns) {
    int who = board.next;
    if (!board.hasEater(who) || turns < 1) return false;
    int fruits = board.fruits;
    int stones = board.stones[who];
    board.take(number);
    boolean leads = leadsToWish(board, one, turns - 1);
    board.fruits = fruits;
    board.stones[who] = stones;
    board.next = who;
    return leads;
  }

  private static boolean leadsToWish(Board board, int one, int turns) {
    if (turns < 1 || board.fruits == 0) return board.isPleased(one);
    if (board.eaterCount == 1) return aloneLeadsToWish(board, one, turns);
    if (board.next != one) return numberLeadsToWish(board, one, board.wanted(), turns);
    int greatest = Math.min(board.most, board.fruits);
    for (int k = 0; k <= greatest; k++) {
      if (numberLeadsToWish(board, one, k, turns)) return true;
    }
    return false;
  }

  /** One alone can come to every sum, so its TURNS need not be tried one by one. */
  private static boolean aloneLeadsToWish(Board board, int one, int turns) {
    if (!board.hasEater(one)) return false;
    int greatest = Math.min(board.fruits, turns * board.most);
    for (int k = 0; k <= greatest; k++) {
      if (board.pleases(one, Math.min(MOST_STONES, board.stones[one] + k))) return true;
    }
    return false;
  }

  // ---- sharing and pushing

  public long shared(int what) {
    if (what != 0 && what != 1) return refuseLong(OTHER);
    if (now.eaterCount == 0 || now.rhymeCount == 0) return refuseLong(STATE);
    return shares.waysToPleaseAll(now, what == 0 ? 1 : now.bunch);
  }

  public int can(int what) {
    if (what != 0 && what != 1) return refuse(OTHER);
    if (now.eaterCount == 0 || now.rhymeCount == 0) return refuse(STATE);
    int best = 0;
    int most = 0;
    int sets = 1 << now.eaterCount;
    for (int bits = 1; bits < sets; bits++) {
      int many = Integer.bitCount(bits);
      if (many > most && shares.canPlease(now, bits)) {
        most = many;
        best = bits;
      }
    }
    return what == 0 ? most : best;
  }

  public int gift() {
    if (now.rhymeCount == 0) return refuse(STATE);
    int best = NONE;
    int most = Integer.bitCount(now.pleasedBits());
    for (int giver = 0; giver < now.eaterCount; giver++) {
      for (int other = 0; other < now.eaterCount; other++) {
        for (int k = 1; k <= 3; k++) {
          int pleased = now.pleasedByPush(giver, other, k);
          if (pleased > most) {
            most = pleased;
            best = 100 * giver + 10 * other + k;
          }
        }
      }
    }
    return best;
  }

  public int pushes() {
    if (now.rhymeCount == 0) return refuse(STATE);
    return shares.fewestPushes(now);
  }

  // ---- games

  public int sure(int eater, int what) {
    if (!now.hasEater(eater)) return refuse(NOBODY);
    if (what != 0 && what != 1) return refuse(OTHER);
    if (now.rhymeCount == 0) return refuse(STATE);
    games.playAgainst(now, eater);
    return what == 0 ? games.outcomeNow(now) : games.firstSureNumber(now, eater);
  }

  public int last(int what) {
    if (what != 0 && what != 1) return refuse(OTHER);
    if (now.eaterCount != 2 || now.fruits == 0) return refuse(STATE);
    int rest = now.restInPlay(now.fruits);
    if (what == 0) return rest != 0 ? now.next : 1 - now.next;
    return rest != 0 ? rest : 1;
  }

  public int duel(int what) {
    if (what != 0 && what != 1) return refuse(OTHER);
    if (now.eaterCount != 2 || now.rhymeCount == 0) return refuse(STATE);
    games.playDuel(now);
    return what == 0 ? games.outcomeNow(now) : games.duelNumber(now, now.fruits, now.next, 0);
  }

  public int pile(int n) {
    if (n < 0) return refuse(BELOW);
    if (n > MOST_ON_PILE || now.pileCount >= SEATS) return refuse(ROOM);
    now.piles[now.pileCount] = n;
    now.pileCount++;
    return now.pileCount - 1;
  }

  public int move(int pile, int n) {
    if (pile < 0 || pile >= now.pileCount) return refuse(NOBODY);
    if (n < 1) return refuse(BELOW);
    if (n > now.most || n > now.piles[pile]) return refuse(ROOM);
    now.piles[pile] -= n;
    return now.piles[pile];
  }

  public int wins(int what) {
    if (what < 0 || what > 3) return refuse(OTHER);
    boolean lastLoses = what == 1 || what == 3;
    if (what < 2) return Games.moverLoses(now, -1, 0, lastLoses) ? 0 : 1;
    for (int p = 0; p < now.pileCount; p++) {
      int greatest = Math.min(now.most, now.piles[p]);
      for (int k = 1; k <= greatest; k++) {
        if (Games.moverLoses(now, p, k, lastLoses)) return 10 * p + k;
      }
    }
    return NONE;
  }

  // ---- chances

  public long spoons(int eater, int n, int a, int b, int word, int part) {
    if (!now.hasEater(eater) || word < 0 || word > WORDS) return refuseLong(NOBODY);
    if (n < 0 || a < 0 || b < 0) return refuseLong(BELOW);
    if (n > MOST_SPOONS || a > 9 || b > 9) return refuseLong(ROOM);
    if (part != 0 && part != 1) return refuseLong(OTHER);
    if (now.rhymeCount == 0) return refuseLong(STATE);
    int sought = word == WORDS ? NONE : word;
    long above = 0;
    long choices = 1;
    for (int k = 0; k <= n; k++) {
      int stones = now.stones[eater] + k * a + (n - k) * b;
      if (now.wordTo(0, stones) == sought) above += choices;
      choices = choices * (n - k) / (k + 1);
    }
    return partOf(above, 1L << n, part);
  }

  public long unknown(int rhyme, int n, int word, int part) {
    if (!now.hasWord(rhyme, word)) return refuseLong(NOBODY);
    if (n < 1) return refuseLong(BELOW);
    if (n > MOST_UNKNOWN) return refuseLong(ROOM);
    if (part != 0 && part != 1) return refuseLong(OTHER);
    int above = 0;
    for (int i = 1; i <= n; i++) {
      if (now.wordTo(rhyme, i) == word) above++;
    }
    return partOf(above, n, part);
  }

  public int petals(int eater) {
    if (!now.hasEater(eater)) return refuse(NOBODY);
    if (toldCount != ROW_ROOM || now.rhymeCount == 0) return refuse(STATE);
    return likeliestWord(now.wishes[eater]);
  }

  public long petal(int eater, int part) {
    if (!now.hasEater(eater)) return refuseLong(NOBODY);
    if (toldCount != ROW_ROOM || now.rhymeCount == 0) return refuseLong(STATE);
    if (part != 0 && part != 1) return refuseLong(OTHER);
    int wish = now.wishes[eater];
    int all = 0;
    for (int i = 0; i < ROW_ROOM; i++) all += told[i];
    return partOf(weightFor(wish, likeliestWord(wish)), all, part);
  }

  private int likeliestWord(int wish) {
    int best = 0;
    for (int word = 1; word < now.lengths[0]; word++) {
      if (weightFor(wish, word) > weightFor(wish, best)) best = word;
    }
    return best;
  }

  private int weightFor(int wish, int first) {
    int weight = 0;
    for (int stones = 1; stones <= ROW_ROOM; stones++) {
      if (spoken(now.lengths[0], first, stones) == wish) weight += told[stones - 1];
    }
    return weight;
  }

  // ---- the row

  public int row(int v) {
    if (v < 0) return refuse(BELOW);
    if (v > 99 || toldCount >= ROW_ROOM) return refuse(ROOM);
    told[toldCount] = v;
    toldCount++;
    return toldCount;
  }

  public int clear() {
    int had = toldCount;
    toldCount = 0;
    return had;
  }

  // ---- the image

  public int image() {
    kept.copyFrom(now);
    isKept = true;
    return now.fruits;
  }

  public int restore() {
    if (!isKept) return refuse(STATE);
    now.copyFrom(kept);
    past.forget();
    return now.fruits;
  }

  public int count(int what) {
    if (what >= 11 && what <= 16) return refused[what - 10];
    switch (what) {
      case 0: return now.eaterCount;
      case 1: return now.rhymeCount;
      case 2: return now.fruits;
      case 3: return now.bunch;
      case 4: return now.most;
      case 5: return now.next;
      case 6: return now.allStones();
      case 7: return letters.size;
      case 8: return toldCount;
      case 9: return now.pleasedBits();
      case 10: return now.pileCount;
      case 17: return past.size;
      case 18: return now.allOnPiles();
      default: return NONE;
    }
  }

  // ---- small help

  private int refuse(int number) {
    if (number <= -1 && number >= -6) refused[-number]++;
    return number;
  }

  private long refuseLong(int number) {
    return LONG_REFUSAL - refuse(number);
  }

  private static int spoken(int length, int first, int n) {
    if (n < 1 || length < 1) return NONE;
    return (first + n - 1) % length;
  }

  private static long commonDivisor(long one, long other) {
    long a = one;
    long b = other;
    // no two longs need a hundred steps
    for (int i = 0; i < 100 && b > 0; i++) {
      long rest = a % b;
      a = b;
      b = rest;
    }
    return a;
  }

  private static int commonMultiple(int one, int other) {
    long divisor = commonDivisor(one, other);
    return divisor < 1 ? 0 : (int) (one / divisor * other);
  }

  /** Part 0 is above the line, 1 below it; nothing of nothing is 0 by 1. */
  private static long partOf(long above, long below, int part) {
    long divisor = commonDivisor(above, below);
    if (divisor < 1 || below < 1) return part;
    return (part == 0 ? above : below) / divisor;
  }

  /** All that an IMAGE holds; suppers in mind and the trial of a TABLE go on boards of their own. */
  private static final class Board {
    private int rhymeCount;
    private final int[] lengths = new int[SEATS];
    private final int[] firsts = new int[SEATS];
    private int eaterCount;
    private final int[] kinds = new int[SEATS];
    private final int[] figures = new int[SEATS];
    private final int[] wishes = new int[SEATS];
    private final int[] stones = new int[SEATS];
    private int fruits;
    private int bunch = 2;
    private int most = 3;
    private int next;
    private int pileCount;
    private final int[] piles = new int[SEATS];

    private void copyFrom(Board other) {
      rhymeCount = other.rhymeCount;
      eaterCount = other.eaterCount;
      fruits = other.fruits;
      bunch = other.bunch;
      most = other.most;
      next = other.next;
      pileCount = other.pileCount;
      System.arraycopy(other.lengths, 0, lengths, 0, SEATS);
      System.arraycopy(other.firsts, 0, firsts, 0, SEATS);
      System.arraycopy(other.kinds, 0, kinds, 0, SEATS);
      System.arraycopy(other.figures, 0, figures, 0, SEATS);
      System.arraycopy(other.wishes, 0, wishes, 0, SEATS);
      System.arraycopy(other.stones, 0, stones, 0, SEATS);
      System.arraycopy(other.piles, 0, piles, 0, SEATS);
    }

    private boolean hasRhyme(int r) {
      return r >= 0 && r < rhymeCount;
    }

    private boolean hasWord(int r, int word) {
      return hasRhyme(r) && word >= 0 && word < lengths[r];
    }

    private boolean hasEater(int e) {
      return e >= 0 && e < eaterCount;
    }

    private int wordTo(int r, int n) {
      return hasRhyme(r) ? spoken(lengths[r], firsts[r], n) : NONE;
    }

    private boolean pleases(int e, int n) {
      return hasEater(e) && rhymeCount > 0 && spoken(lengths[0], firsts[0], n) == wishes[e];
    }

    /** The least STONES with which one HAS its WISH; more than a rim holds, if none do. */
    private int leastPleasing(int e) {
      for (int n = 1; n <= LONGEST; n++) {
        if (pleases(e, n)) return n;
      }
      return MOST_STONES + 1;
    }

    private boolean isPleased(int e) {
      return hasEater(e) && pleases(e, stones[e]);
    }

    private int pleasedBits() {
      int bits = 0;
      for (int e = 0; e < eaterCount; e++) {
        if (isPleased(e)) bits |= 1 << e;
      }
      return bits;
    }

    private int pleasedBy(int length, int first) {
      int pleased = 0;
      for (int e = 0; e < eaterCount; e++) {
        if (spoken(length, first, stones[e]) == wishes[e]) pleased++;
      }
      return pleased;
    }

    /** How many HAVE their WISH by a push of k STONES; none, if it is no push. */
    private int pleasedByPush(int giver, int other, int k) {
      if (giver == other || !hasEater(giver) || !hasEater(other)) return 0;
      if (stones[giver] < k || stones[other] + k > MOST_STONES) return 0;
      int pleased = 0;
      for (int e = 0; e < eaterCount; e++) {
        int change = e == giver ? -k : e == other ? k : 0;
        if (pleases(e, stones[e] + change)) pleased++;
      }
      return pleased;
    }

    private int allStones() {
      int all = 0;
      for (int e = 0; e < eaterCount; e++) all += stones[e];
      return all;
    }

    private int allOnPiles() {
      int all = 0;
      for (int p = 0; p < pileCount; p++) all += piles[p];
      return all;
    }

    private boolean addRhyme(int length) {
      if (rhymeCount >= SEATS || length < SHORTEST || length > LONGEST) return false;
      lengths[rhymeCount] = length;
      firsts[rhymeCount] = 0;
      rhymeCount++;
      return true;
    }

    private boolean addEater(int kind, int figure, int wish, int held) {
      if (eaterCount >= SEATS || kind >= KINDS || wish >= WORDS) return false;
      kinds[eaterCount] = kind;
      figures[eaterCount] = figure;
      wishes[eaterCount] = wish;
      stones[eaterCount] = held;
      eaterCount++;
      return true;
    }

    private boolean fillBowl(int newFruits, int newBunch, int newMost) {
      if (newFruits > MOST_FRUITS || newBunch < 1 || newBunch > MOST_BUNCH) return false;
      if (newMost < 1 || newMost > MOST_A_TURN) return false;
      fruits = newFruits;
      bunch = newBunch;
      most = newMost;
      return true;
    }

    private boolean beginWith(int r, int word) {
      if (!hasWord(r, word)) return false;
      firsts[r] = word;
      return true;
    }

    private int takeTurn() {
      return take(wanted());
    }

    /** NEXT takes a number of FRUITS, no more than there are: how many it took. */
    private int take(int number) {
      if (!hasEater(next)) return 0;
      int taken = Math.min(number, fruits);
      fruits -= taken;
      stones[next] = Math.min(MOST_STONES, stones[next] + taken);
      next = (next + 1) % eaterCount;
      return taken;
    }

    private int wanted() {
      if (!hasEater(next)) return 0;
      switch (kinds[next]) {
        case FREE: return leastToPlease(next, 1);
        case SPOON: return Math.max(1, figures[next]);
        case HANG: return leastToPlease(next, bunch);
        case PLAY: return numberInPlay();
        case KINDLY: return Math.max(1, numberInPlay() - 1);
        default: return 1;
      }
    }

    private int leastToPlease(int e, int step) {
      if (!hasEater(e) || step < 1) return 0;
      // behind as many steps as the longest RHYME has words they come round
      int greatest = Math.min(LONGEST * step, Math.min(fruits, MOST_STONES - stones[e]));
      for (int k = 0; k <= greatest; k += step) {
        if (pleases(e, stones[e] + k)) return k;
      }
      return 0;
    }

    private int numberInPlay() {
      int rest = restInPlay(fruits);
      return rest == 0 ? 1 : rest;
    }

    /** What has to be taken of so many to leave a multiple of MOST and 1. */
    private int restInPlay(int held) {
      return most < 0 ? 0 : held % (most + 1);
    }

    /** A SUPPER: how many TURNS. */
    private int eatUp() {
      int turns = 0;
      int idle = 0;
      while (turns < LONGEST_SUPPER && fruits > 0 && idle < eaterCount) {
        idle = takeTurn() == 0 ? idle + 1 : 0;
        turns++;
      }
      return turns;
    }
  }

  /** The letters of a TABLE. */
  private static final class Letters {
    private static final int SPACE = 96;
    private final int[] signs = new int[SPACE];
    private int size;

    private boolean hasRoom() {
      return size < SPACE;
    }

    private void add(int sign) {
      if (size < 0 || size >= SPACE) return;
      signs[size] = sign;
      size++;
    }

    private int signAt(int place) {
      return place >= 0 && place < size ? signs[place] : -1;
    }

    private boolean isDigit(int place) {
      return signAt(place) >= '0' && signAt(place) <= '9';
    }

    /** What stands behind a STATEMENT's first letter: d a digit, D one that may lack. */
    private static String formOf(int sign) {
      switch (sign) {
        case 'r': return "dD;";
        case 'e': return "dddddd;";
        case 'b': return "dD,dd;";
        case 'w': return "ddd;";
        case 't': return ";";
        default: return "";
      }
    }

    /** The place of a FAULT of kind 1; -9 if there is none. */
    private int wrongPlace() {
      if (size == 0) return 0;
      int place = 0;
      while (place < size) {
        String form = formOf(signAt(place));
        if (form.isEmpty()) return place;
        place++;
        for (int i = 0; i < form.length(); i++) {
          char sought = form.charAt(i);
          boolean asDigit = sought == 'd' || sought == 'D';
          if (asDigit ? isDigit(place) : signAt(place) == sought) place++;
          else if (sought != 'D') return place;
        }
      }
      return NONE;
    }

    /** The place behind a STATEMENT. */
    private int endOf(int at) {
      int place = at;
      while (place < size && signAt(place) != ';') place++;
      return place + 1;
    }

    private int digitsFrom(int place) {
      int digits = 0;
      while (digits < SPACE && isDigit(place + digits)) digits++;
      return digits;
    }

    private int numberAt(int place, int digits) {
      int number = 0;
      for (int i = 0; i < digits; i++) number = 10 * number + signAt(place + i) - '0';
      return number;
    }

    /** A STATEMENT comes to a board, if it is as it must be. */
    private boolean bring(Board board, int at) {
      int digits = digitsFrom(at + 1);
      int figures = at + 1;
      switch (signAt(at)) {
        case 'r':
          return board.addRhyme(numberAt(figures, digits));
        case 'e':
          return board.addEater(numberAt(figures, 1), numberAt(figures + 1, 1),
              numberAt(figures + 2, 2), numberAt(figures + 4, 2));
        case 'b':
          return board.fillBowl(numberAt(figures, digits), numberAt(figures + digits + 1, 1),
              numberAt(figures + digits + 2, 1));
        case 'w':
          return board.beginWith(numberAt(figures, 1), numberAt(figures + 1, 2));
        case 't':
          if (board.eaterCount == 0) return false;
          board.takeTurn();
          return true;
        default:
          return false;
      }
    }
  }

  /** The TURNS that can be taken BACK, the latest last. */
  private static final class Past {
    private static final int SPACE = 8;
    private final int[] eaters = new int[SPACE];
    private final int[] fruits = new int[SPACE];
    private final int[] stones = new int[SPACE];
    private int size;

    private void forget() {
      size = 0;
    }

    private void remember(Board board) {
      if (!board.hasEater(board.next)) return;
      if (size >= SPACE) dropOldest();
      eaters[size] = board.next;
      fruits[size] = board.fruits;
      stones[size] = board.stones[board.next];
      size++;
    }

    private void dropOldest() {
      System.arraycopy(eaters, 1, eaters, 0, SPACE - 1);
      System.arraycopy(fruits, 1, fruits, 0, SPACE - 1);
      System.arraycopy(stones, 1, stones, 0, SPACE - 1);
      size = SPACE - 1;
    }

    private int undo(Board board) {
      if (size < 1 || !board.hasEater(eaters[size - 1])) return NONE;
      size--;
      int who = eaters[size];
      board.next = who;
      board.fruits = fruits[size];
      board.stones[who] = stones[size];
      return who;
    }
  }

  /** Ways in which FRUITS or STONES are spread over the rims. */
  private static final class Shares {
    private static final int FAR = 1000000;
    private final long[] ways = new long[MOST_FRUITS + 1];
    private final int[] costs = new int[SEATS * MOST_STONES + 1];

    private long waysToPleaseAll(Board board, int step) {
      if (step < 1 || board.fruits < 0 || board.fruits > MOST_FRUITS) return 0;
      for (int f = 0; f <= board.fruits; f++) ways[f] = f == 0 ? 1 : 0;
      for (int e = 0; e < board.eaterCount; e++) {
        // downwards, so that what lies below is still that without this EATER
        for (int f = board.fruits; f >= 0; f--) ways[f] = waysWith(board, e, f, step);
      }
      return ways[board.fruits];
    }

    private long waysWith(Board board, int e, int f, int step) {
      long sum = 0;
      for (int k = 0; k <= f; k += Math.max(1, step)) {
        if (board.pleases(e, board.stones[e] + k)) sum += ways[f - k];
      }
      return sum;
    }

    private boolean canPlease(Board board, int bits) {
      // with nobody else there, no FRUITS can be left to others
      if (bits == (1 << board.eaterCount) - 1) return waysToPleaseAll(board, 1) > 0;
      int needed = 0;
      for (int e = 0; e < board.eaterCount; e++) {
        if ((bits >> e & 1) == 1) needed += leastNeeded(board, e);
      }
      return needed <= board.fruits;
    }

    private int leastNeeded(Board board, int e) {
      for (int k = 0; k <= board.fruits; k++) {
        if (board.pleases(e, board.stones[e] + k)) return k;
      }
      return FAR;
    }

    private int fewestPushes(Board board) {
      int all = Math.min(board.allStones(), SEATS * MOST_STONES);
      for (int s = 0; s <= all; s++) costs[s] = s == 0 ? 0 : FAR;
      for (int e = 0; e < board.eaterCount; e++) {
        int first = board.leastPleasing(e);
        // downwards, as in waysToPleaseAll
        for (int s = all; s >= 0; s--) costs[s] = costWith(board, e, first, s);
      }
      return costs[all] < FAR ? costs[all] : NONE;
    }

    /** Each push brings one STONE to who has too few, so what is got is what is counted. */
    private int costWith(Board board, int e, int first, int s) {
      int least = FAR;
      int greatest = Math.min(s, MOST_STONES);
      int step = Math.max(1, board.lengths[0]);
      for (int held = Math.max(1, first); held <= greatest; held += step) {
        least = Math.min(least, costs[s - held] + Math.max(0, held - board.stones[e]));
      }
      return least;
    }
  }

  /** Games over the FRUITS and the PILES. */
  private static final class Games {
    private static final int KEPT_ROWS = MOST_A_TURN + 1;
    private static final int TAKEN = MOST_FRUITS + 1;

    // one outcome for FRUITS left, who is NEXT, FRUITS taken by the one looked at;
    // no TURN looks further than MOST_A_TURN rows, so older rows are written over
    private final int[] outcomes = new int[KEPT_ROWS * SEATS * TAKEN];

    private int slot(int left, int who, int taken) {
      if (left < 0 || who < 0 || who >= SEATS || taken < 0 || taken >= TAKEN) return 0;
      return (left % KEPT_ROWS * SEATS + who) * TAKEN + taken;
    }

    private int outcomeNow(Board board) {
      return outcomes[slot(board.fruits, board.next, 0)];
    }

    private static int behindOne(Board board, int who) {
      return board.eaterCount < 1 ? 0 : (who + 1) % board.eaterCount;
    }

    /** Outcome 1: the one can have its WISH whatever the others do. */
    private void playAgainst(Board board, int one) {
      for (int left = 0; left <= board.fruits; left++) {
        for (int who = 0; who < board.eaterCount; who++) {
          for (int taken = 0; taken + left <= board.fruits; taken++) {
            outcomes[slot(left, who, taken)] = sureOutcome(board, one, left, who, taken);
          }
        }
      }
    }

    private int sureOutcome(Board board, int one, int left, int who, int taken) {
      if (!board.hasEater(one)) return 0;
      if (left == 0) return board.pleases(one, board.stones[one] + taken) ? 1 : 0;
      int sought = who == one ? 1 : 0;
      int then = behindOne(board, who);
      int greatest = Math.min(board.most, left);
      for (int k = 1; k <= greatest; k++) {
        int after = who == one ? taken + k : taken;
        if (outcomes[slot(left - k, then, after)] == sought) return sought;
      }
      return 1 - sought;
    }

    private int firstSureNumber(Board board, int one) {
      if (board.next != one) return NONE;
      int then = behindOne(board, one);
      int greatest = Math.min(board.most, board.fruits);
      for (int k = 1; k <= greatest; k++) {
        if (outcomes[slot(board.fruits - k, then, k)] == 1) return k;
      }
      return NONE;
    }

    /** Outcomes are who HAS its WISH (bits); what is taken is that of EATER 0. */
    private void playDuel(Board board) {
      for (int left = 0; left <= board.fruits; left++) {
        for (int who = 0; who < 2; who++) {
          for (int taken = 0; taken + left <= board.fruits; taken++) {
            outcomes[slot(left, who, taken)] = duelOutcome(board, left, who, taken);
          }
        }
      }
    }

    private int duelOutcome(Board board, int left, int who, int taken) {
      if (left > 0) return afterNumber(left, who, taken, duelNumber(board, left, who, taken));
      boolean first = board.pleases(0, board.stones[0] + taken);
      boolean second = board.pleases(1, board.stones[1] + board.fruits - taken);
      return (first ? 1 : 0) + (second ? 2 : 0);
    }

    private int afterNumber(int left, int who, int taken, int number) {
      return outcomes[slot(left - number, 1 - who, who == 0 ? taken + number : taken)];
    }

    /** 0 if no FRUITS are left. */
    private int duelNumber(Board board, int left, int who, int taken) {
      int best = 0;
      int most = -1;
      int greatest = Math.min(board.most, left);
      for (int k = 1; k <= greatest; k++) {
        int worth = worthTo(who, afterNumber(left, who, taken, k));
        if (worth > most) {
          most = worth;
          best = k;
        }
      }
      return best;
    }

    private static int worthTo(int who, int bits) {
      int own = bits >> who & 1;
      int others = bits >> (1 - who) & 1;
      return 2 * own + 1 - others;
    }

    /**
     * Whether the one to move loses when `less` are taken from pile `at` (none: -1).
     * A PILE counts as its rest by MOST and 1; if the last one loses, that is turned
     * round only where no rest above 1 is left.
     */
    private static boolean moverLoses(Board board, int at, int less, boolean lastLoses) {
      int sum = 0;
      boolean small = true;
      for (int p = 0; p < board.pileCount; p++) {
        int held = p == at ? board.piles[p] - less : board.piles[p];
        int rest = board.restInPlay(held);
        sum ^= rest;
        if (rest > 1) small = false;
      }
      return sum == (lastLoses && small ? 1 : 0);
    }
  }
}
