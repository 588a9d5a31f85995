import java.util.Arrays;

/**
 * Codes that find and mend flipped bits of stored words.
 *
 * Every kind is linear: each bit of a word has a mark, the bits that it turns in the check, and a
 * check is the exclusive or of marks. So the kinds differ only in their marks and in what they make
 * of a syndrome, and a folded address, which is in both checks, drops out of flips and bursts.
 */
public final class CheckCodes {
  public static final int NONE = -1;

  private static final int GOOD = 0;
  private static final int MENDED = 1;
  private static final int TOLD = 2;
  private static final int MENDED_TO_ANOTHER = 3;
  private static final int ANSWERS = 4;

  private static final int SUMS = 0;
  private static final int PARITIES = 1;
  private static final int NIBBLES = 2;
  private static final int KINDS = 4;

  private static final int MOST_WORD_BITS = 57;
  private static final int LANES_OF_KIND_3 = 4;
  private static final int LONGEST_BURST = 6;
  private static final int ROWS = 65536;
  private static final int SPARES = 8;

  private final int kind;
  private final int wordBits;
  private final int storedBits;
  private final long wordMask;
  private final int checkMask;
  private final Code code;
  private final Turn turn;

  private boolean hasAddress;
  private int addressFold;

  private long lastWord;
  private int lastCheck;
  private int lastTurned;

  private final int[] answerCounts;
  private boolean answersCounted;
  private int longestMendedBurst;

  private final int[] sparedRows;
  private int sparesUsed;

  public CheckCodes(int bits, int kind) {
    // In long, because bits - 1 would wrap around at the lowest int.
    this.wordBits = 1 + (int) Math.floorMod((long) bits - 1L, (long) MOST_WORD_BITS);
    this.kind = Math.floorMod(kind, KINDS);
    this.code = codeOf(this.kind, this.wordBits);
    this.storedBits = this.wordBits + this.code.checkBits;
    this.wordMask = (1L << this.wordBits) - 1L;
    this.checkMask = (1 << this.code.checkBits) - 1;
    this.turn = new Turn();
    this.answerCounts = new int[2 * ANSWERS];
    this.longestMendedBurst = NONE;
    this.sparedRows = new int[SPARES];
  }

  public int size(int what) {
    switch (what) {
      case 0:
        return wordBits;
      case 1:
        return code.checkBits;
      case 2:
        return kind;
      case 3:
        return code.greatestRowSum();
      default:
        return NONE;
    }
  }

  public int column(int bit) throws IndexOutOfBoundsException, UnsupportedOperationException {
    if (bit < 0 || bit >= wordBits) {
      throw new IndexOutOfBoundsException("the word has no such bit");
    }
    if (kind == NIBBLES) {
      throw new UnsupportedOperationException("codes of nibbles have no columns");
    }
    return code.columnOf(bit);
  }

  public boolean address(int address) throws UnsupportedOperationException {
    if (kind == PARITIES || kind == NIBBLES) {
      throw new UnsupportedOperationException("this kind folds no address in");
    }
    boolean before = hasAddress;
    hasAddress = true;
    addressFold = foldOf(address) & checkMask;
    return before;
  }

  public boolean plain() {
    boolean before = hasAddress;
    hasAddress = false;
    addressFold = 0;
    return before;
  }

  public int check(long word) {
    return code.sumOf(word) ^ addressFold;
  }

  public int read(long word, int check) throws IllegalArgumentException {
    if ((check & ~checkMask) != 0) {
      throw new IllegalArgumentException("the check has bits that no check of this code has");
    }
    int answer = code.judge(check ^ code.sumOf(word) ^ addressFold, turn);
    lastWord = (word & wordMask) ^ turn.wordFlips;
    lastCheck = check ^ turn.checkFlips;
    lastTurned = Long.bitCount(turn.wordFlips) + Integer.bitCount(turn.checkFlips);
    return answer;
  }

  public long word() {
    return lastWord;
  }

  public int checkRead() {
    return lastCheck;
  }

  public int turned() {
    return lastTurned;
  }

  public int flips(int a, int b) throws IndexOutOfBoundsException {
    if (!isStoredBit(a) || !isStoredBit(b)) {
      throw new IndexOutOfBoundsException("the stored one has no such bit");
    }
    return answerToPair(a, b);
  }

  public int table(int what) throws IndexOutOfBoundsException {
    if (what < 0 || what >= answerCounts.length) {
      throw new IndexOutOfBoundsException("the table has no such place");
    }
    countAnswers();
    return answerCounts[what];
  }

  public boolean bursts(int n) throws IllegalArgumentException {
    if (n < 1 || n > LONGEST_BURST) {
      throw new IllegalArgumentException("bursts have 1 to 6 bits");
    }
    if (longestMendedBurst == NONE) {
      longestMendedBurst = findLongestMendedBurst();
    }
    return n <= longestMendedBurst;
  }

  public int spare(int row) throws IndexOutOfBoundsException, UnsupportedOperationException {
    if (!isRow(row)) {
      throw new IndexOutOfBoundsException("there is no such row");
    }
    int own = findSpare(row);
    if (own != NONE) {
      return own;
    }
    if (sparesUsed >= sparedRows.length) {
      throw new UnsupportedOperationException("no spare row is free");
    }
    // Spares are never given back, so the lowest free one is the one behind those in use.
    int given = sparesUsed;
    sparedRows[given] = row;
    sparesUsed = given + 1;
    return given;
  }

  public int spareOf(int row) throws IndexOutOfBoundsException {
    if (!isRow(row)) {
      throw new IndexOutOfBoundsException("there is no such row");
    }
    return findSpare(row);
  }

  public int share(int what) throws IndexOutOfBoundsException {
    if (what != 0 && what != 1) {
      throw new IndexOutOfBoundsException("a fraction has two parts");
    }
    countAnswers();
    int above = answerCounts[ANSWERS + MENDED_TO_ANOTHER];
    int below = storedBits * (storedBits - 1) / 2;
    int divisor = greatestCommonDivisor(above, below);
    if (below == 0 || divisor == 0) {
      return what == 0 ? 0 : 1;
    }
    return (what == 0 ? above : below) / divisor;
  }

  private static Code codeOf(int kind, int wordBits) {
    switch (kind) {
      case SUMS:
        return new SumCode(wordBits, new Lane[] {new Lane(wordBits)});
      case PARITIES:
        return new ParityCode(wordBits, Math.min(wordBits, ParityCode.MOST_CHECK_BITS));
      case NIBBLES:
        return new NibbleCode(wordBits);
      default:
        return new SumCode(wordBits, lanesOfKind3(wordBits));
    }
  }

  private static Lane[] lanesOfKind3(int wordBits) {
    Lane[] lanes = new Lane[LANES_OF_KIND_3];
    for (int i = 0; i < lanes.length; i++) {
      lanes[i] = new Lane((wordBits + LANES_OF_KIND_3 - 1 - i) / LANES_OF_KIND_3);
    }
    return lanes;
  }

  private static int foldOf(int address) {
    int both = (address >>> 16 ^ address) & 0xFFFF;
    return (both << 3 | both >>> 13) & 0xFFFF;
  }

  private boolean isStoredBit(int bit) {
    return bit >= 0 && bit < storedBits;
  }

  private static boolean isRow(int row) {
    return row >= 0 && row < ROWS;
  }

  private int findSpare(int row) {
    for (int i = 0; i < sparesUsed; i++) {
      if (sparedRows[i] == row) {
        return i;
      }
    }
    return NONE;
  }

  private long wordPart(int bit) {
    return bit < wordBits ? 1L << bit : 0L;
  }

  private int checkPart(int bit) {
    return bit < wordBits ? 0 : 1 << (bit - wordBits);
  }

  private int answerToPair(int a, int b) {
    int syndrome = a == b ? code.markOf(a) : code.markOf(a) ^ code.markOf(b);
    return answerTo(syndrome, wordPart(a) | wordPart(b), checkPart(a) | checkPart(b));
  }

  /** The pattern has at most six bits, so that it fits a long at each bit of a word. */
  private int answerToPattern(int pattern, int first) {
    if (first >= wordBits) {
      int checkFlips = pattern << (first - wordBits);
      return answerTo(checkFlips, 0L, checkFlips);
    }
    long flips = (long) pattern << first;
    int checkFlips = (int) (flips >>> wordBits);
    return answerTo(code.sumOf(flips) ^ checkFlips, flips & wordMask, checkFlips);
  }

  private int answerTo(int syndrome, long wordFlips, int checkFlips) {
    int answer = code.judge(syndrome, turn);
    boolean undone = turn.wordFlips == wordFlips && turn.checkFlips == checkFlips;
    return answer == MENDED && !undone ? MENDED_TO_ANOTHER : answer;
  }

  /** Counts once alone: nothing that an object is told later changes these answers. */
  private void countAnswers() {
    if (answersCounted) {
      return;
    }
    answersCounted = true;
    for (int a = 0; a < storedBits; a++) {
      addToCount(answerToPair(a, a));
      for (int b = a + 1; b < storedBits; b++) {
        addToCount(ANSWERS + answerToPair(a, b));
      }
    }
  }

  private void addToCount(int place) {
    if (place >= 0 && place < answerCounts.length) {
      answerCounts[place]++;
    }
  }

  private int findLongestMendedBurst() {
    for (int length = 1; length <= LONGEST_BURST; length++) {
      if (!allMended(length)) {
        return length - 1;
      }
    }
    return LONGEST_BURST;
  }

  private boolean allMended(int length) {
    int last = 1 << (length - 1);
    for (int first = 0; first + length <= storedBits; first++) {
      for (int pattern = last | 1; pattern < 2 * last; pattern += 2) {
        if (answerToPattern(pattern, first) != MENDED) {
          return false;
        }
      }
    }
    return true;
  }

  private static int greatestCommonDivisor(int a, int b) {
    int greater = a;
    int rest = b;
    // Euclid's steps over ints are fewer than 64.
    for (int step = 0; step < 64 && rest != 0; step++) {
      int next = greater % rest;
      greater = rest;
      rest = next;
    }
    return greater;
  }

  /** The bits that a reading turns: one object used again, for the room of a run is counted. */
  private static final class Turn {
    long wordFlips;
    int checkFlips;

    void clear() {
      wordFlips = 0L;
      checkFlips = 0;
    }
  }

  private abstract static class Code {
    final int wordBits;
    final int checkBits;
    final int[] marks;

    Code(int wordBits, int checkBits, int[] marks) {
      this.wordBits = wordBits;
      this.checkBits = checkBits;
      this.marks = marks;
    }

    /** Answers GOOD, MENDED or TOLD, and leaves in turn what is to be turned. */
    abstract int judge(int syndrome, Turn turn);

    int columnOf(int bit) {
      return bit >= 0 && bit < marks.length ? marks[bit] : 0;
    }

    /** The bits of the check that a flip of a bit of the stored one turns. */
    final int markOf(int storedBit) {
      if (storedBit >= 0 && storedBit < marks.length) {
        return marks[storedBit];
      }
      return 1 << (storedBit - wordBits);
    }

    int greatestRowSum() {
      return 0;
    }

    final int sumOf(long word) {
      int sum = 0;
      long rest = word;
      for (int k = 0; k < marks.length && rest != 0L; k++) {
        if ((rest & 1L) != 0L) {
          sum ^= marks[k];
        }
        rest >>>= 1;
      }
      return sum;
    }
  }

  /** One word of kind 0: its columns, and which bit a syndrome points at. */
  private static final class Lane {
    static final int LEAST_CHECK_BITS = 4;
    static final int MOST_CHECK_BITS = 7;
    static final int LEAST_WEIGHT = 3;

    final int checkBits;
    final int[] columns;
    final int[] rowSums;
    /** By syndrome: the bit of the word, behind them those of the check, or NONE. */
    final int[] bitAt;

    Lane(int bits) {
      checkBits = checkBitsFor(bits);
      columns = new int[bits];
      rowSums = new int[checkBits];
      bitAt = new int[1 << checkBits];
      Arrays.fill(bitAt, NONE);
      for (int row = 0; row < checkBits; row++) {
        bitAt[1 << row] = bits + row;
      }
      for (int bit = 0; bit < bits; bit++) {
        int column = bestColumn(bitAt, rowSums);
        if (column != NONE) {
          columns[bit] = column;
          bitAt[column] = bit;
          addTo(rowSums, column);
        }
      }
    }

    private static int checkBitsFor(int bits) {
      if (bits == 0) {
        return 0;
      }
      int count = LEAST_CHECK_BITS;
      while (count < MOST_CHECK_BITS && (1 << (count - 1)) - count < bits) {
        count++;
      }
      return count;
    }

    private static int bestColumn(int[] bitAt, int[] rowSums) {
      for (int weight = LEAST_WEIGHT; weight <= rowSums.length; weight += 2) {
        int column = bestColumnOfWeight(weight, bitAt, rowSums);
        if (column != NONE) {
          return column;
        }
      }
      return NONE;
    }

    private static int bestColumnOfWeight(int weight, int[] bitAt, int[] rowSums) {
      int best = NONE;
      int least = Integer.MAX_VALUE;
      for (int candidate = 0; candidate < bitAt.length; candidate++) {
        if (bitAt[candidate] == NONE && Integer.bitCount(candidate) == weight) {
          int greatest = greatestSumWith(rowSums, candidate);
          if (greatest < least) {
            least = greatest;
            best = candidate;
          }
        }
      }
      return best;
    }

    private static int greatestSumWith(int[] rowSums, int column) {
      int greatest = 0;
      for (int row = 0; row < rowSums.length; row++) {
        int sum = rowSums[row] + (column >>> row & 1);
        greatest = sum > greatest ? sum : greatest;
      }
      return greatest;
    }

    private static void addTo(int[] rowSums, int column) {
      for (int row = 0; row < rowSums.length; row++) {
        rowSums[row] += column >>> row & 1;
      }
    }

    int columnAt(int bit) {
      return bit >= 0 && bit < columns.length ? columns[bit] : 0;
    }

    int greatestSum() {
      return greatestSumWith(rowSums, 0);
    }

    int bitFor(int syndrome) {
      return syndrome >= 0 && syndrome < bitAt.length ? bitAt[syndrome] : NONE;
    }
  }

  /** Kinds 0 and 3: a word dealt out to lanes in turn, to one lane or to four. */
  private static final class SumCode extends Code {
    final Lane[] lanes;

    SumCode(int wordBits, Lane[] lanes) {
      super(wordBits, checkBitsOf(lanes), marksOf(wordBits, lanes));
      this.lanes = lanes;
    }

    private static int checkBitsOf(Lane[] lanes) {
      int sum = 0;
      for (Lane lane : lanes) {
        sum += lane.checkBits;
      }
      return sum;
    }

    private static int[] marksOf(int wordBits, Lane[] lanes) {
      int[] marks = new int[wordBits];
      int base = 0;
      for (int i = 0; i < lanes.length; i++) {
        for (int k = i; k < marks.length; k += lanes.length) {
          marks[k] = lanes[i].columnAt(k / lanes.length) << base;
        }
        base += lanes[i].checkBits;
      }
      return marks;
    }

    int columnOf(int bit) {
      if (bit < 0 || lanes.length == 0) {
        return 0;
      }
      return lanes[bit % lanes.length].columnAt(bit / lanes.length);
    }

    int greatestRowSum() {
      int greatest = 0;
      for (Lane lane : lanes) {
        greatest = Math.max(greatest, lane.greatestSum());
      }
      return greatest;
    }

    int judge(int syndrome, Turn turn) {
      turn.clear();
      int answer = GOOD;
      int base = 0;
      for (int i = 0; i < lanes.length; i++) {
        Lane lane = lanes[i];
        int own = syndrome >>> base & ((1 << lane.checkBits) - 1);
        if (own != 0) {
          int bit = lane.bitFor(own);
          if (bit == NONE) {
            turn.clear();
            return TOLD;
          }
          answer = MENDED;
          int laneBits = lane.columns.length;
          if (bit < laneBits) {
            turn.wordFlips |= 1L << (bit * lanes.length + i);
          } else {
            turn.checkFlips |= 1 << (base + bit - laneBits);
          }
        }
        base += lane.checkBits;
      }
      return answer;
    }
  }

  private static final class ParityCode extends Code {
    static final int MOST_CHECK_BITS = 4;

    ParityCode(int wordBits, int checkBits) {
      super(wordBits, checkBits, marksOf(wordBits, checkBits));
    }

    private static int[] marksOf(int wordBits, int checkBits) {
      int[] marks = new int[wordBits];
      int place = 0;
      for (int k = 0; k < wordBits; k++) {
        marks[k] = 1 << place;
        place = place + 1 < checkBits ? place + 1 : 0;
      }
      return marks;
    }

    int judge(int syndrome, Turn turn) {
      turn.clear();
      return syndrome == 0 ? GOOD : TOLD;
    }
  }

  private static final class NibbleCode extends Code {
    static final int CHECK_BITS = 12;
    static final int NIBBLE_BITS = 4;
    static final int NIBBLE_MASK = 15;
    /** x^4 + x + 1 */
    static final int MODULUS = 19;

    NibbleCode(int wordBits) {
      super(wordBits, CHECK_BITS, marksOf(wordBits));
    }

    private static int[] marksOf(int wordBits) {
      int[] marks = new int[wordBits];
      for (int k = 0; k < wordBits; k++) {
        int nibble = k / NIBBLE_BITS;
        int first = 1 << (k % NIBBLE_BITS);
        int second = raised(first, nibble);
        int third = raised(second, nibble);
        marks[k] = first | second << NIBBLE_BITS | third << 2 * NIBBLE_BITS;
      }
      return marks;
    }

    private static int timesG(int element) {
      int doubled = element << 1;
      return doubled > NIBBLE_MASK ? doubled ^ MODULUS : doubled;
    }

    private static int raised(int element, int power) {
      int result = element;
      for (int i = 0; i < power; i++) {
        result = timesG(result);
      }
      return result;
    }

    int judge(int syndrome, Turn turn) {
      turn.clear();
      if (syndrome == 0) {
        return GOOD;
      }
      int s = syndrome & NIBBLE_MASK;
      int t = syndrome >>> NIBBLE_BITS & NIBBLE_MASK;
      int u = syndrome >>> 2 * NIBBLE_BITS & NIBBLE_MASK;
      if (syndrome == s || syndrome == t << NIBBLE_BITS || syndrome == u << 2 * NIBBLE_BITS) {
        turn.checkFlips = syndrome;
        return MENDED;
      }
      turn.wordFlips = wordFlipsFor(s, t, u);
      return turn.wordFlips == 0L ? TOLD : MENDED;
    }

    /**
     * 0 where the three sums point at no nibble of the word. With t = s * g^j, that t * t is s * u
     * says just that u is s * g^2j: so one walk looks for both, and nothing is multiplied out.
     */
    private long wordFlipsFor(int s, int t, int u) {
      if (s == 0) {
        return 0L;
      }
      int second = s;
      int third = s;
      for (int first = 0; first < wordBits; first += NIBBLE_BITS) {
        if (second == t && third == u) {
          long flips = (long) s << first;
          return flips >>> wordBits == 0L ? flips : 0L;
        }
        second = timesG(second);
        third = timesG(timesG(third));
      }
      return 0L;
    }
  }
}
