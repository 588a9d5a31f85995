/**
 * Each sentence of the document that names a boundary case has a test of its own here, in the
 * document's order. A broken one is told with its sentence.
 */
public final class EdgeTest {
  private static final Class<?> INDEX = IndexOutOfBoundsException.class;
  private static final Class<?> ARGUMENT = IllegalArgumentException.class;
  private static final Class<?> UNSUPPORTED = UnsupportedOperationException.class;
  private static final int NONE = -1;
  private static final int LOWEST = Integer.MIN_VALUE;
  private static final int HIGHEST = Integer.MAX_VALUE;
  private static final int[] FAR = {LOWEST, LOWEST + 1, -65536, HIGHEST - 1, HIGHEST};

  /** g to the power 0 .. 14, multiplied out by hand: x^4 is x + 1. */
  private static final int[] POWERS = {1, 2, 4, 8, 3, 6, 12, 11, 5, 10, 7, 14, 15, 13, 9};

  private static String place = "";
  private static int sentences = 0;
  private static int wrong = 0;

  private interface Call {
    long run();
  }

  private static void sentence(String words, Runnable test) {
    place = words;
    sentences++;
    try {
      test.run();
    } catch (RuntimeException e) {
      // Told with its sentence, and the sentences behind it are tested all the same.
      fail("threw " + e);
    }
  }

  private static void fail(String what) {
    wrong++;
    System.out.println("[" + place + "] " + what);
  }

  private static void due(String what, long got, long want) {
    if (got != want) {
      fail(what + " answered " + got + ", due is " + want);
    }
  }

  private static void due(String what, boolean got, boolean want) {
    if (got != want) {
      fail(what + " answered " + got + ", due is " + want);
    }
  }

  /** The class must be the very one: what the machine itself throws is of a class below it. */
  private static void dueThrown(String what, Class<?> want, Call call) {
    String got;
    try {
      got = "answered " + call.run();
    } catch (RuntimeException e) {
      if (e.getClass() == want) {
        return;
      }
      got = "threw " + e.getClass().getName();
    }
    fail(what + " " + got + ", due is " + want.getName());
  }

  private static String name(int bits, int kind) {
    return "(" + bits + ", " + kind + ") ";
  }

  private static int stored(CheckCodes x) {
    return x.size(0) + x.size(1);
  }

  /** want: the answer, the word, the check and how many were turned. */
  private static void dueRead(CheckCodes x, long word, int check, long... want) {
    String call = name(x.size(0), x.size(2)) + "read(" + word + ", " + check + ")";
    due(call, x.read(word, check), want[0]);
    dueLast(call, x, want[1], want[2], want[3]);
  }

  private static void dueLast(String call, CheckCodes x, long word, long check, long turned) {
    due(call + " word", x.word(), word);
    due(call + " checkRead", x.checkRead(), check);
    due(call + " turned", x.turned(), turned);
  }

  private static void dueTold(CheckCodes x, long word, int check) {
    dueRead(x, word, check, 2, word, check, 0);
  }

  public static void main(String[] args) {
    termsOfWords();
    termsOfSums();
    termsOfParities();
    termsOfNibbles();
    termsOfFour();
    termsOfAddresses();
    promises1To3();
    promises4To6();
    promise7();
    promises8To10();
    promises11And12();
    promise13();
    promises14To16();
    everywhere();
    System.out.println(wrong == 0
        ? "all " + sentences + " sentences hold" : wrong + " answers are not as due");
    if (wrong != 0) {
      System.exit(1);
    }
  }

  // ---- Terms: words, checks, stored ones

  private static void termsOfWords() {
    sentence("A WORD has M bits (1 .. 57)", () -> {
      for (int bits = -200; bits <= 200; bits++) {
        int m = new CheckCodes(bits, 1).size(0);
        due("bits " + bits + " within 1 .. 57", m >= 1 && m <= 57, true);
      }
      due("least", new CheckCodes(1, 0).size(0), 1);
      due("most", new CheckCodes(57, 0).size(0), 57);
    });
    sentence("its CHECK R bits (fewer than 32)", () -> {
      for (int kind = 0; kind < 4; kind++) {
        for (int bits = 1; bits <= 57; bits++) {
          int r = new CheckCodes(bits, kind).size(1);
          due(name(bits, kind) + "R within 1 .. 31", r >= 1 && r < 32, true);
        }
      }
      due("the longest check", new CheckCodes(57, 3).size(1), 24);
    });
    sentence("bits 0 .. M - 1 are the word's, M .. M + R - 1 the check's (the lowest first)", () -> {
      // A bit of the word and its own sum cancel in kind 1, and no other bit of the check does.
      for (int bits : new int[] {1, 3, 4, 6, 57}) {
        CheckCodes x = new CheckCodes(bits, 1);
        int r = x.size(1);
        for (int k = 0; k < bits; k++) {
          for (int c = 0; c < r; c++) {
            due(name(bits, 1) + k + " with check bit " + c, x.flips(k, bits + c), k % r == c ? 0 : 2);
          }
        }
      }
      // In kind 2 bits of one nibble mend together: the last of the word stands apart.
      CheckCodes nibbles = new CheckCodes(8, 2);
      due("nibble 1", nibbles.flips(4, 7), 1);
      due("the last of the word and the first of the check", nibbles.flips(7, 8), 2);
      due("the check's lowest nibble", nibbles.flips(8, 11), 1);
      due("across two of the check's", nibbles.flips(11, 12), 2);
      due("the check's last nibble", nibbles.flips(16, 19), 1);
    });
    sentence("Bits of words above M count as 0", () -> {
      for (int kind = 0; kind < 4; kind++) {
        for (int bits : new int[] {1, 2, 5, 31, 32, 33, 56, 57}) {
          CheckCodes x = new CheckCodes(bits, kind);
          String who = name(bits, kind);
          long above = -1L << bits;
          long all = ~above;
          due(who + "check of all above", x.check(above), 0);
          due(who + "check of bit M", x.check(1L << bits), 0);
          due(who + "check of bit 63", x.check(Long.MIN_VALUE), 0);
          due(who + "check of -1", x.check(-1L), x.check(all));
          dueRead(x, above, 0, 0, 0, 0, 0);
          dueRead(x, -1L, x.check(all), 0, all, x.check(all), 0);
        }
      }
    });
    sentence("WEIGHT is how many bits of a number are 1", () -> {
      CheckCodes x = new CheckCodes(57, 2);
      for (int nibble = 1; nibble < 16; nibble++) {
        x.read((long) nibble << 20, 0);
        due("turned of " + nibble, x.turned(), Integer.bitCount(nibble));
      }
    });
  }

  // ---- Terms: kind 0

  private static void termsOfSums() {
    sentence("R is the least number for which 2 to the power R - 1, less R, is not below M", () -> {
      int[][] edges = {{4, 4}, {5, 5}, {11, 5}, {12, 6}, {26, 6}, {27, 7}, {57, 7}};
      for (int[] e : edges) {
        due("R of " + e[0], new CheckCodes(e[0], 0).size(1), e[1]);
      }
    });
    sentence("(and 4 at least)", () -> {
      // With three bits of the check there would be one column: 7.
      CheckCodes x = new CheckCodes(1, 0);
      due("R of 1", x.size(1), 4);
      due("its stored bits", x.flips(4, 4), 1);
      dueRead(x, 0, 8, 1, 0, 0, 1);
    });
    sentence("of those of odd weight, 3 or more, that no bit has yet", () -> {
      for (int bits = 1; bits <= 57; bits++) {
        CheckCodes x = new CheckCodes(bits, 0);
        boolean[] had = new boolean[128];
        for (int k = 0; k < bits; k++) {
          int column = x.column(k);
          int weight = Integer.bitCount(column);
          due("column " + k + " of " + bits + " has R bits", column >>> x.size(1), 0);
          due("column " + k + " of " + bits + " is odd", weight % 2 == 1 && weight >= 3, true);
          due("column " + k + " of " + bits + " was had", had[column], false);
          had[column] = true;
        }
      }
    });
    sentence("those of the least weight", () -> {
      // 10 of 5 bits have weight 3, 20 of 6 bits, 35 of 7 bits; 21 of 7 bits have weight 5.
      int[][] edges = {
        {11, 9, 3}, {11, 10, 5}, {26, 19, 3}, {26, 20, 5}, {57, 34, 3}, {57, 35, 5}, {57, 55, 5},
        {57, 56, 7},
      };
      for (int[] e : edges) {
        due("weight of column " + e[1] + " of " + e[0],
            Integer.bitCount(new CheckCodes(e[0], 0).column(e[1])), e[2]);
      }
    });
    sentence("of these the one for which the greatest ROW SUM is least", () -> {
      // Behind 7 and 11 the sums are 2 2 1 1 0: 28 alone leaves all at 2, though 13 is lower.
      due("the third of five", new CheckCodes(5, 0).column(2), 28);
      // Behind 7 the sums are 1 1 1 0 0 0: 56 alone leaves all at 1.
      due("the second of twelve", new CheckCodes(12, 0).column(1), 56);
    });
    sentence("of several the lowest number", () -> {
      due("all are alike at first", new CheckCodes(57, 0).column(0), 7);
      CheckCodes five = new CheckCodes(5, 0);
      due("the second", five.column(1), 11);
      due("the fourth", five.column(3), 13);
      due("the fifth", five.column(4), 14);
    });
    sentence("The check is the exclusive or of the columns of all bits that are 1", () -> {
      CheckCodes x = new CheckCodes(5, 0);
      due("none", x.check(0), 0);
      due("the first alone", x.check(1), 7);
      due("the last alone", x.check(16), 14);
      due("all", x.check(31), 7 ^ 11 ^ 28 ^ 13 ^ 14);
    });
    sentence("the SYNDROME ... 0: GOOD (0)", () -> {
      CheckCodes x = new CheckCodes(5, 0);
      for (int word = 0; word < 32; word++) {
        int check = x.check(word);
        dueRead(x, word, check, 0, word, check, 0);
      }
    });
    sentence("It is a column ...: that bit of the word ... is turned: MENDED (1)", () -> {
      for (int bits : new int[] {1, 4, 5, 11, 12, 26, 27, 57}) {
        CheckCodes x = new CheckCodes(bits, 0);
        long word = 0x155555555555555L & (-1L >>> 64 - bits);
        int check = x.check(word);
        for (int k = 0; k < bits; k++) {
          dueRead(x, word ^ 1L << k, check, 1, word, check, 1);
        }
      }
    });
    sentence("or one bit alone: that bit ... of the check, is turned: MENDED (1)", () -> {
      for (int bits : new int[] {1, 4, 5, 11, 12, 26, 27, 57}) {
        CheckCodes x = new CheckCodes(bits, 0);
        int check = x.check(1);
        for (int c = 0; c < x.size(1); c++) {
          dueRead(x, 1, check ^ 1 << c, 1, 1, check, 1);
        }
      }
    });
    sentence("Else TOLD (2): nothing is turned", () -> {
      CheckCodes x = new CheckCodes(5, 0);
      dueTold(x, 0, 3);
      dueTold(x, 3, 0);
      dueTold(x, 1, 7 ^ 24);
      // Of odd weight, but of a bit that the word has not.
      dueTold(x, 0, 31);
      dueTold(x, 0, 19);
      // All 64 numbers of odd weight are columns or bits alone here: only even weights are told.
      CheckCodes full = new CheckCodes(57, 0);
      for (int check = 1; check < 128; check++) {
        int due = Integer.bitCount(check) % 2 == 1 ? 1 : 2;
        due("full, syndrome " + check, full.read(0, check), due);
      }
    });
  }

  // ---- Terms: kind 1

  private static void termsOfParities() {
    sentence("R is 4 (with M below 4: M)", () -> {
      int[][] edges = {{1, 1}, {2, 2}, {3, 3}, {4, 4}, {5, 4}, {57, 4}};
      for (int[] e : edges) {
        due("R of " + e[0], new CheckCodes(e[0], 1).size(1), e[1]);
      }
    });
    sentence("bit k of the word counts in bit k modulo R of the check", () -> {
      for (int bits : new int[] {1, 2, 3, 4, 5, 57}) {
        CheckCodes x = new CheckCodes(bits, 1);
        for (int k = 0; k < bits; k++) {
          due(name(bits, 1) + "check of bit " + k, x.check(1L << k), 1 << k % Math.min(bits, 4));
        }
      }
      due("two in one sum", new CheckCodes(5, 1).check(17), 0);
      due("three in one sum", new CheckCodes(9, 1).check(273), 1);
    });
    sentence("GOOD, or TOLD", () -> {
      CheckCodes x = new CheckCodes(57, 1);
      for (int check = 0; check < 16; check++) {
        dueRead(x, 0, check, check == 0 ? 0 : 2, 0, check, 0);
      }
      CheckCodes one = new CheckCodes(1, 1);
      dueRead(one, 1, 1, 0, 1, 1, 0);
      dueTold(one, 1, 0);
      dueTold(one, 0, 1);
    });
  }

  // ---- Terms: kind 2

  private static int nibbles(int s, int t, int u) {
    return s | t << 4 | u << 8;
  }

  /** The check of nibble j being the element g to the power e. */
  private static int checkOfNibble(int j, int e) {
    return nibbles(POWERS[e % 15], POWERS[(e + j) % 15], POWERS[(e + 2 * j) % 15]);
  }

  private static void termsOfNibbles() {
    sentence("KIND 2 NIBBLES: R is 12", () -> {
      for (int bits : new int[] {1, 4, 5, 56, 57}) {
        due("R of " + bits, new CheckCodes(bits, 2).size(1), 12);
      }
    });
    sentence("products are those of polynomials modulo x^4 + x + 1; g is 2", () -> {
      CheckCodes x = new CheckCodes(57, 2);
      for (int j = 0; j < 14; j++) {
        for (int e = 0; e < 15; e++) {
          due("nibble " + j + " is g^" + e, x.check((long) POWERS[e] << 4 * j), checkOfNibble(j, e));
        }
      }
      due("the one bit of nibble 14", x.check(1L << 56), nibbles(1, 9, 13));
    });
    sentence("the lowest first, the sum of the word's nibbles, ...", () -> {
      CheckCodes x = new CheckCodes(12, 2);
      due("nibble 2 alone", x.check(0x100), nibbles(1, 4, 3));
      due("nibbles that are alike", x.check(0x011), nibbles(0, 1 ^ 2, 1 ^ 4));
      due("three of them", x.check(0x111), nibbles(1, 1 ^ 2 ^ 4, 1 ^ 4 ^ 3));
    });
    sentence("all 0: GOOD", () -> {
      CheckCodes x = new CheckCodes(57, 2);
      dueRead(x, 0, 0, 0, 0, 0, 0);
      long word = 0x123456789ABCDEFL & (-1L >>> 7);
      dueRead(x, word, x.check(word), 0, word, x.check(word), 0);
    });
    sentence("One alone is not: that nibble of the check is turned by it", () -> {
      for (int bits : new int[] {1, 57}) {
        CheckCodes x = new CheckCodes(bits, 2);
        int check = x.check(1);
        for (int by = 1; by < 16; by++) {
          for (int shift = 0; shift < 12; shift += 4) {
            dueRead(x, 1, check ^ by << shift, 1, 1, check, Integer.bitCount(by));
          }
        }
      }
    });
    sentence("None is 0", () -> {
      for (int a = 1; a < 16; a++) {
        CheckCodes x = new CheckCodes(57, 2);
        for (int b = 1; b < 16; b++) {
          dueTold(x, 0, nibbles(0, a, b));
          dueTold(x, 0, nibbles(a, 0, b));
          dueTold(x, 0, nibbles(a, b, 0));
        }
      }
    });
    sentence("t * t is s * u", () -> {
      // Nibble 1 by 1 is (1, 2, 4); with any other third sum nothing is pointed at.
      CheckCodes x = new CheckCodes(57, 2);
      for (int u = 1; u < 16; u++) {
        if (u == 4) {
          dueRead(x, 0, nibbles(1, 2, u), 1, 16, nibbles(1, 2, u), 1);
        } else {
          dueTold(x, 0, nibbles(1, 2, u));
        }
      }
    });
    sentence("t is s times g to the power j for a nibble j that the word has", () -> {
      for (int j = 1; j < 15; j++) {
        int check = checkOfNibble(j, 0);
        CheckCodes without = new CheckCodes(4 * j, 2);
        dueTold(without, 0, check);
        CheckCodes with = new CheckCodes(4 * j + 1, 2);
        dueRead(with, 0, check, 1, 1L << 4 * j, check, 1);
      }
    });
    sentence("and s does not touch bits from M on", () -> {
      for (int bits = 1; bits <= 57; bits++) {
        CheckCodes x = new CheckCodes(bits, 2);
        int j = (bits - 1) / 4;
        for (int e = 0; e < 15; e++) {
          long turned = (long) POWERS[e] << 4 * j;
          int check = checkOfNibble(j, e);
          if (turned >>> bits == 0) {
            dueRead(x, 0, check, 1, turned, check, Long.bitCount(turned));
          } else {
            dueTold(x, 0, check);
          }
        }
      }
    });
    sentence("nibble j is turned by s: MENDED (1)", () -> {
      long word = 0x0F0F0F0F0F0F0F0L;
      int check = new CheckCodes(57, 2).check(word);
      for (int j = 0; j < 14; j++) {
        CheckCodes x = new CheckCodes(57, 2);
        for (int by = 1; by < 16; by++) {
          dueRead(x, word ^ (long) by << 4 * j, check, 1, word, check, Integer.bitCount(by));
        }
      }
      dueRead(new CheckCodes(57, 2), word ^ 1L << 56, check, 1, word, check, 1);
    });
    sentence("Else TOLD", () -> {
      CheckCodes x = new CheckCodes(57, 2);
      // Two nibbles of the word; one of the word and one of the check.
      dueTold(x, 0x11, 0);
      dueTold(x, 1L << 56 | 1, 0);
      dueTold(x, 1, 0x001);
      dueTold(x, 0x10, 0x800);
    });
  }

  // ---- Terms: kind 3

  private static void termsOfFour() {
    sentence("bits k with k modulo 4 = i are the word of code i (bit k / 4 of it)", () -> {
      int[] columns = {7, 11, 28, 13, 14};
      CheckCodes x = new CheckCodes(20, 3);
      for (int k = 0; k < 20; k++) {
        due("check of bit " + k, x.check(1L << k), columns[k / 4] << 5 * (k % 4));
      }
    });
    sentence("where it has no bits it has no check", () -> {
      for (int bits = 1; bits <= 4; bits++) {
        CheckCodes x = new CheckCodes(bits, 3);
        due("R of " + bits, x.size(1), 4 * bits);
        due("all bits of " + bits, x.check(-1L), 0x7777 >>> 4 * (4 - bits));
        dueThrown("a bit of the check behind " + bits, ARGUMENT, () -> x.read(0, 1 << x.size(1)));
      }
      due("R of 5", new CheckCodes(5, 3).size(1), 16);
    });
    sentence("Check bits: those of code 0 lowest, then of 1, 2, 3", () -> {
      // Code 0 has five bits and a check of five, the others four and four.
      CheckCodes x = new CheckCodes(17, 3);
      due("R", x.size(1), 17);
      due("bit 0", x.check(1), 7);
      due("bit 16", x.check(1 << 16), 14);
      due("bit 1", x.check(2), 7 << 5);
      due("bit 2", x.check(4), 7 << 9);
      due("bit 3", x.check(8), 7 << 13);
      due("bit 15", x.check(1 << 15), 14 << 13);
      dueRead(x, 0, 1 << 4 | 1 << 5 | 1 << 9 | 1 << 16, 1, 0, 0, 4);
      // Here codes 0 and 1 have six each, behind them five each.
      CheckCodes later = new CheckCodes(46, 3);
      due("R of 46", later.size(1), 22);
      due("bit 2 of 46", later.check(4), 7 << 12);
      due("bit 3 of 46", later.check(8), 7 << 17);
    });
    sentence("TOLD, when one tells (nothing at all is turned then)", () -> {
      CheckCodes x = new CheckCodes(20, 3);
      for (int teller = 0; teller < 4; teller++) {
        long two = 17L << teller;
        dueTold(x, two, 0);
        for (int mender = 0; mender < 4; mender++) {
          if (mender != teller) {
            dueTold(x, two | 1L << mender, 0);
            dueTold(x, two, 1 << 5 * mender);
          }
        }
        dueTold(x, two | 15L, 0x108421 & (1 << 20) - 1);
      }
      dueTold(x, 255, 0);
      // Of odd weight, but no column of a code of five bits.
      dueTold(x, 2, 31);
    });
    sentence("else MENDED, when one mends", () -> {
      CheckCodes x = new CheckCodes(20, 3);
      for (int mender = 0; mender < 4; mender++) {
        dueRead(x, 1L << mender, 0, 1, 0, 0, 1);
        dueRead(x, 1L << 16 + mender, 0, 1, 0, 0, 1);
        dueRead(x, 0, 16 << 5 * mender, 1, 0, 0, 1);
      }
      dueRead(x, 1 | 32 | 1024 | 32768, 0, 1, 0, 0, 4);
      dueRead(x, 1 | 2, 1 << 10 | 1 << 19, 1, 0, 0, 4);
    });
    sentence("else GOOD", () -> {
      for (int bits : new int[] {1, 2, 3, 4, 17, 57}) {
        CheckCodes x = new CheckCodes(bits, 3);
        long all = -1L >>> 64 - bits;
        dueRead(x, 0, 0, 0, 0, 0, 0);
        dueRead(x, all, x.check(all), 0, all, x.check(all), 0);
      }
    });
  }

  // ---- Terms: addresses, exceptions, constants

  private static int fold(CheckCodes x, int address) {
    x.address(address);
    return x.check(0);
  }

  private static void termsOfAddresses() {
    sentence("its 32 bits taken as two numbers of 16 bits, their exclusive or", () -> {
      CheckCodes x = new CheckCodes(57, 3);
      for (int bit = 0; bit < 16; bit++) {
        int alone = fold(x, 1 << bit);
        due("bit " + (bit + 16) + " as bit " + bit, fold(x, 1 << bit + 16), alone);
        due("both bits " + bit, fold(x, 1 << bit | 1 << bit + 16), 0);
      }
      due("0", fold(x, 0), 0);
      due("-1", fold(x, -1), 0);
      due("0x12345678", fold(x, 0x12345678), 0x2262);
    });
    sentence("turned left by 3 in 16 bits", () -> {
      CheckCodes x = new CheckCodes(57, 3);
      due("bit 0", fold(x, 1), 8);
      due("bit 12", fold(x, 1 << 12), 1 << 15);
      due("bit 13", fold(x, 1 << 13), 1);
      due("bit 15", fold(x, 1 << 15), 4);
      due("bit 31", fold(x, LOWEST), 4);
      due("all but one", fold(x, 0xFFFE), 0xFFF7);
    });
    sentence("the lowest R bits of (...)", () -> {
      int[][] edges = {
        {1, 0, 0xF}, {5, 0, 0x1F}, {12, 0, 0x3F}, {57, 0, 0x7F},
        {1, 3, 0xF}, {2, 3, 0xFF}, {3, 3, 0xFFF}, {4, 3, 0xFFFF}, {17, 3, 0xFFFF}, {57, 3, 0xFFFF},
      };
      for (int[] e : edges) {
        due(name(e[0], e[1]) + "fold", fold(new CheckCodes(e[0], e[1]), 0xFFFF), e[2]);
      }
    });
    sentence("also in reading", () -> {
      for (int kind = 0; kind < 4; kind += 3) {
        CheckCodes x = new CheckCodes(57, kind);
        x.address(1);
        dueRead(x, 0, 8, 0, 0, 8, 0);
        // The address alone differs: its one bit looks like a flip of the check.
        dueRead(x, 0, 0, 1, 0, 8, 1);
        dueRead(x, 1, 8, 1, 0, 8, 1);
        x.address(LOWEST);
        dueRead(x, 0, 4, 0, 0, 4, 0);
        x.plain();
        dueRead(x, 0, 4, 1, 0, 0, 1);
      }
    });
    sentence("Of several exceptions the first one told is thrown", () -> {
      CheckCodes nibbles = new CheckCodes(30, 2);
      dueThrown("column 30 of kind 2", INDEX, () -> nibbles.column(30));
      dueThrown("column -1 of kind 2", INDEX, () -> nibbles.column(-1));
      CheckCodes used = allSparesUsed();
      dueThrown("spare 65536 with none free", INDEX, () -> used.spare(65536));
      dueThrown("spare -1 with none free", INDEX, () -> used.spare(-1));
    });
    sentence("NONE = -1", () -> due("NONE", CheckCodes.NONE, -1));
  }

  // ---- Promises 1 to 3

  private static void promises1To3() {
    sentence("1: M is 1 + (bits - 1) modulo 57 (rests not below 0)", () -> {
      int[][] edges = {
        {1, 1}, {2, 2}, {56, 56}, {57, 57}, {58, 1}, {114, 57}, {115, 1}, {0, 57}, {-1, 56},
        {-55, 2}, {-56, 1}, {-57, 57}, {-113, 1}, {-114, 57},
        // Modulo 57 2^18 is 1, so that 2^31 is 2^13 = 57 * 143 + 41.
        {HIGHEST, 40}, {LOWEST, 16}, {LOWEST + 1, 17}, {LOWEST + 15, 31},
      };
      for (int[] e : edges) {
        for (int kind = 0; kind < 4; kind++) {
          due("bits " + e[0] + " of kind " + kind, new CheckCodes(e[0], kind).size(0), e[1]);
        }
      }
    });
    sentence("1: the kind is kind modulo 4 (rests not below 0)", () -> {
      int[][] edges = {
        {0, 0}, {3, 3}, {4, 0}, {7, 3}, {-1, 3}, {-2, 2}, {-3, 1}, {-4, 0}, {-5, 3},
        {HIGHEST, 3}, {LOWEST, 0}, {LOWEST + 1, 1},
      };
      int[] r = {5, 4, 12, 16};
      for (int[] e : edges) {
        CheckCodes x = new CheckCodes(8, e[0]);
        due("kind " + e[0], x.size(2), e[1]);
        due("R of kind " + e[0], x.size(1), r[e[1]]);
      }
    });
    sentence("1: No address; no rows are spared", () -> {
      for (int kind = 0; kind < 4; kind++) {
        CheckCodes x = new CheckCodes(8, kind);
        due("an address", x.plain(), false);
        due("check of 0", x.check(0), 0);
        for (int row : new int[] {0, 1, 7, 65535}) {
          due("spareOf " + row, x.spareOf(row), NONE);
        }
        due("the first spare", x.spare(65535), 0);
        // Row 0 has none, though spare 0 is given out.
        due("spareOf 0", x.spareOf(0), NONE);
      }
      due("an address at first", new CheckCodes(8, 0).address(5), false);
    });
    sentence("2: the greatest row sum (3; kinds 1 and 2: 0)", () -> {
      int[][] edges = {{1, 1}, {4, 3}, {5, 4}, {11, 7}, {12, 6}, {26, 15}, {57, 31}};
      for (int[] e : edges) {
        due("of " + e[0], new CheckCodes(e[0], 0).size(3), e[1]);
        due("kind 1 of " + e[0], new CheckCodes(e[0], 1).size(3), 0);
        due("kind 2 of " + e[0], new CheckCodes(e[0], 2).size(3), 0);
      }
    });
    sentence("2: of kind 3 of all four", () -> {
      due("1 bit, three codes empty", new CheckCodes(1, 3).size(3), 1);
      // Code 0 alone has five bits, with a sum of 4; the others 3.
      due("17 bits", new CheckCodes(17, 3).size(3), 4);
      // Code 0 has twelve bits in six rows, with 6; the others eleven in five rows, with 7.
      due("45 bits", new CheckCodes(45, 3).size(3), 7);
      due("47 bits", new CheckCodes(47, 3).size(3), 7);
      due("48 bits", new CheckCodes(48, 3).size(3), 6);
    });
    sentence("2: NONE for another what", () -> {
      for (int kind = 0; kind < 4; kind++) {
        CheckCodes x = new CheckCodes(8, kind);
        due("4", x.size(4), NONE);
        due("-1", x.size(-1), NONE);
        for (int what : FAR) {
          due("size " + what, x.size(what), NONE);
        }
      }
    });
    sentence("3: kind 1: the number that has just its bit of the check", () -> {
      for (int bits : new int[] {1, 2, 3, 4, 5, 57}) {
        CheckCodes x = new CheckCodes(bits, 1);
        for (int k = 0; k < bits; k++) {
          due(name(bits, 1) + "column " + k, x.column(k), 1 << k % Math.min(bits, 4));
        }
      }
    });
    sentence("3: kind 3: that in its own code, not moved", () -> {
      int[] columns = {7, 11, 28, 13, 14};
      CheckCodes x = new CheckCodes(20, 3);
      for (int k = 0; k < 20; k++) {
        due("column " + k, x.column(k), columns[k / 4]);
      }
      CheckCodes uneven = new CheckCodes(17, 3);
      due("bit 8 of code 0 with five rows", uneven.column(8), 28);
      due("bit 11 of code 3 with four rows", uneven.column(11), 13);
      due("bit 16", uneven.column(16), 14);
    });
    sentence("3: IndexOutOfBoundsException, when the word has no such bit", () -> {
      for (int kind = 0; kind < 4; kind++) {
        for (int bits : new int[] {1, 2, 4, 56, 57}) {
          CheckCodes x = new CheckCodes(bits, kind);
          // Bits of the check are none of the word's.
          for (int bit : new int[] {-1, bits, bits + 1, stored(x) - 1, stored(x)}) {
            dueThrown(name(bits, kind) + "column " + bit, INDEX, () -> x.column(bit));
          }
          for (int bit : FAR) {
            dueThrown(name(bits, kind) + "column " + bit, INDEX, () -> x.column(bit));
          }
          if (kind != 2) {
            due(name(bits, kind) + "column of the last is one", x.column(bits - 1) > 0, true);
          }
        }
      }
    });
    sentence("3: UnsupportedOperationException, with kind 2", () -> {
      for (int bits : new int[] {1, 57}) {
        CheckCodes x = new CheckCodes(bits, 2);
        dueThrown("column 0", UNSUPPORTED, () -> x.column(0));
        dueThrown("the last column", UNSUPPORTED, () -> x.column(bits - 1));
      }
    });
  }

  // ---- Promises 4 to 6

  private static void promises4To6() {
    sentence("4: The address that is folded in from now on", () -> {
      for (int kind = 0; kind < 4; kind += 3) {
        CheckCodes x = new CheckCodes(57, kind);
        dueRead(x, 0, 0, 0, 0, 0, 0);
        x.address(1);
        dueLast("what was read stays", x, 0, 0, 0);
        due("with the first", x.check(0), 8);
        x.address(2);
        due("with the second alone", x.check(0), 16);
        x.address(0);
        due("with address 0", x.check(0), 0);
      }
    });
    sentence("4: whether one was", () -> {
      for (int kind = 0; kind < 4; kind += 3) {
        CheckCodes x = new CheckCodes(8, kind);
        due("the first", x.address(0), false);
        due("the second: address 0 was one", x.address(-1), true);
        due("the third: -1 folds to 0 but was one", x.address(-1), true);
        due("the fourth, alike", x.address(-1), true);
        x.plain();
        due("behind plain", x.address(3), false);
      }
    });
    sentence("4: UnsupportedOperationException, with kinds 1 and 2", () -> {
      for (int kind = 1; kind < 3; kind++) {
        for (int bits : new int[] {1, 57}) {
          CheckCodes x = new CheckCodes(bits, kind);
          for (int address : new int[] {0, 1, -1, LOWEST, HIGHEST}) {
            dueThrown(name(bits, kind) + "address " + address, UNSUPPORTED,
                () -> x.address(address) ? 1 : 0);
          }
          due("check of 0 behind it", x.check(0), 0);
          due("read behind it", x.read(0, 0), 0);
          due("plain behind it", x.plain(), false);
        }
      }
    });
    sentence("5: No address is folded in from now on", () -> {
      for (int kind = 0; kind < 4; kind += 3) {
        CheckCodes x = new CheckCodes(57, kind);
        x.address(1);
        x.read(0, 8);
        x.plain();
        dueLast("what was read stays", x, 0, 8, 0);
        due("check", x.check(0), 0);
        due("read", x.read(0, 8), 1);
      }
    });
    sentence("5: whether one was", () -> {
      for (int kind = 0; kind < 4; kind++) {
        CheckCodes x = new CheckCodes(8, kind);
        due("at first", x.plain(), false);
        due("again", x.plain(), false);
      }
      for (int kind = 0; kind < 4; kind += 3) {
        CheckCodes x = new CheckCodes(8, kind);
        for (int address : new int[] {0, -1, 1, LOWEST}) {
          x.address(address);
          due("behind address " + address, x.plain(), true);
          due("and again", x.plain(), false);
        }
      }
    });
    sentence("6: A word's check", () -> {
      for (int kind = 0; kind < 4; kind++) {
        for (int bits : new int[] {1, 57}) {
          CheckCodes x = new CheckCodes(bits, kind);
          String who = name(bits, kind);
          for (long word : new long[] {0, 1, -1L, Long.MIN_VALUE, Long.MAX_VALUE}) {
            int check = x.check(word);
            due(who + "check of " + word + " has R bits", check >>> x.size(1), 0);
            due(who + "check of " + word + " reads well", x.read(word, check), 0);
          }
        }
      }
      // 57 bits: each row of kind 0 has 31 of them, and those of kind 1 have 15, 14, 14, 14.
      due("kind 0, all", new CheckCodes(57, 0).check(-1L), 127);
      due("kind 1, all", new CheckCodes(57, 1).check(-1L), 1);
      CheckCodes folded = new CheckCodes(57, 0);
      folded.address(1);
      due("kind 0, all, with an address", folded.check(-1L), 127 ^ 8);
    });
  }

  // ---- Promise 7

  private static void promise7() {
    sentence("7: IllegalArgumentException, when the check has other bits", () -> {
      for (int kind = 0; kind < 4; kind++) {
        for (int bits = 1; bits <= 57; bits++) {
          CheckCodes x = new CheckCodes(bits, kind);
          int r = x.size(1);
          String who = name(bits, kind) + "read 0 with check ";
          for (int c = r; c < 32; c++) {
            int check = 1 << c;
            dueThrown(who + check, ARGUMENT, () -> x.read(0, check));
          }
          for (int check : new int[] {-1, LOWEST, HIGHEST, -1 << r, 1 << r | 1}) {
            dueThrown(who + check, ARGUMENT, () -> x.read(0, check));
          }
        }
      }
    });
    sentence("7: a check of all R bits has no other bits", () -> {
      for (int kind = 0; kind < 4; kind++) {
        for (int bits = 1; bits <= 57; bits++) {
          CheckCodes x = new CheckCodes(bits, kind);
          int all = (1 << x.size(1)) - 1;
          int answer = x.read(0, all);
          due(name(bits, kind) + "answers 0 .. 2", answer >= 0 && answer <= 2, true);
        }
      }
      dueRead(new CheckCodes(57, 0), 0, 127, 1, 1L << 56, 127, 1);
      dueTold(new CheckCodes(57, 1), 0, 15);
      dueRead(new CheckCodes(57, 2), 0, 0xFFF, 1, 15, 0xFFF, 4);
      dueTold(new CheckCodes(57, 3), 0, 0xFFFFFF);
    });
    sentence("7: a refused reading leaves the latest one as it was", () -> {
      for (int kind = 0; kind < 4; kind++) {
        CheckCodes fresh = new CheckCodes(20, kind);
        dueThrown("the first reading", ARGUMENT, () -> fresh.read(1, -1));
        dueLast("behind a refused first one", fresh, 0, 0, 0);
      }
      CheckCodes x = new CheckCodes(20, 2);
      dueRead(x, 0x0F1, x.check(0x001), 1, 1, x.check(1), 4);
      dueThrown("the second reading", ARGUMENT, () -> x.read(0x333, 4096));
      dueLast("behind it", x, 1, x.check(1), 4);
    });
  }

  // ---- Promises 8 to 10

  private static void promises8To10() {
    sentence("8: The word as it was read last, mended or not", () -> {
      CheckCodes x = new CheckCodes(57, 0);
      long top = 1L << 56;
      dueRead(x, top, 127, 0, top, 127, 0);
      dueRead(x, -1L, 127 ^ 1, 1, -1L >>> 7, 127, 1);
      dueRead(x, 0, 127, 1, top, 127, 1);
      dueTold(x, top | 1, 0);
      // Bits above M are no part of a word that is told either.
      dueRead(x, 3L | Long.MIN_VALUE, 0, 2, 3, 0, 0);
    });
    sentence("8: (0 before)", () -> {
      for (int kind = 0; kind < 4; kind++) {
        CheckCodes x = new CheckCodes(20, kind);
        due("word", x.word(), 0);
        x.check(-1L);
        x.flips(0, 0);
        x.table(1);
        x.bursts(1);
        x.share(0);
        due("word behind calls that read nothing", x.word(), 0);
      }
    });
    sentence("9: The check as it was read last, mended or not", () -> {
      CheckCodes x = new CheckCodes(57, 2);
      due("before", x.checkRead(), 0);
      dueRead(x, 0, 0xF00, 1, 0, 0, 4);
      dueTold(x, 0, 0x011);
      dueRead(x, 1, 0, 1, 0, 0, 1);
      dueRead(x, 1, 0x111, 0, 1, 0x111, 0);
      CheckCodes folded = new CheckCodes(57, 0);
      folded.address(0xFFFF);
      // The stored check has the address in it, and so has the one that was read.
      dueRead(folded, 0, 0x7F, 0, 0, 0x7F, 0);
      dueRead(folded, 0, 0x7E, 1, 0, 0x7F, 1);
    });
    sentence("10: How many bits were turned by the latest reading", () -> {
      for (int kind = 0; kind < 4; kind++) {
        due("before", new CheckCodes(20, kind).turned(), 0);
      }
      CheckCodes x = new CheckCodes(20, 3);
      dueRead(x, 15, 0, 1, 0, 0, 4);
      due("asked twice", x.turned(), 4);
      dueTold(x, 17, 0);
      dueRead(x, 1, 1 << 5 | 1 << 10, 1, 0, 0, 3);
      x.read(0, 0);
      due("behind a good one", x.turned(), 0);
      CheckCodes nibbles = new CheckCodes(20, 2);
      dueRead(nibbles, 0, 0x0F0, 1, 0, 0, 4);
      dueTold(nibbles, 0x11, 0);
    });
    sentence("8 to 10: flips, table, bursts and share are no readings", () -> {
      for (int kind = 0; kind < 4; kind++) {
        CheckCodes x = new CheckCodes(20, kind);
        x.read(0x30, x.check(0x30) ^ 1);
        long word = x.word();
        int check = x.checkRead();
        int turned = x.turned();
        x.flips(0, 0);
        x.flips(0, stored(x) - 1);
        x.table(1);
        x.bursts(1);
        x.bursts(6);
        x.share(1);
        dueLast("kind " + kind, x, word, check, turned);
      }
    });
  }

  // ---- Promises 11 and 12

  /** What flips() is to answer, told by reading through the public face. */
  private static int answerByReading(CheckCodes x, long wordFlips, int checkFlips) {
    int check = x.check(0);
    int answer = x.read(wordFlips, check ^ checkFlips);
    return answer == 1 && (x.word() != 0 || x.checkRead() != check) ? 3 : answer;
  }

  private static long wordPart(int bits, int bit) {
    return bit < bits ? 1L << bit : 0L;
  }

  private static int checkPart(int bits, int bit) {
    return bit < bits ? 0 : 1 << bit - bits;
  }

  private static void promises11And12() {
    sentence("11: What reading answers when these bits of a word 0 and its check are flipped", () -> {
      for (int kind = 0; kind < 4; kind++) {
        for (int bits : new int[] {1, 3, 4, 5, 17, 57}) {
          int end = stored(new CheckCodes(bits, kind));
          for (int a = 0; a < end; a++) {
            CheckCodes x = new CheckCodes(bits, kind);
            CheckCodes reader = new CheckCodes(bits, kind);
            for (int b = 0; b < end; b++) {
              long word = wordPart(bits, a) | wordPart(bits, b);
              int check = checkPart(bits, a) | checkPart(bits, b);
              due(name(bits, kind) + "flips " + a + " " + b, x.flips(a, b),
                  answerByReading(reader, word, check));
            }
          }
        }
      }
    });
    sentence("11: its check may have an address in it", () -> {
      for (int kind = 0; kind < 4; kind += 3) {
        CheckCodes plain = new CheckCodes(20, kind);
        CheckCodes folded = new CheckCodes(20, kind);
        folded.address(0x5A5A1234);
        for (int a = 0; a < 20; a++) {
          for (int b = 0; b < 20; b++) {
            due("kind " + kind + " flips " + a + " " + b, folded.flips(a, b), plain.flips(a, b));
          }
        }
      }
    });
    sentence("11: (both may be one: then just that)", () -> {
      for (int kind = 0; kind < 4; kind++) {
        for (int bits : new int[] {1, 57}) {
          CheckCodes x = new CheckCodes(bits, kind);
          for (int bit = 0; bit < stored(x); bit++) {
            due(name(bits, kind) + "bit " + bit, x.flips(bit, bit), kind == 1 ? 2 : 1);
          }
        }
      }
    });
    sentence("11: IndexOutOfBoundsException, when the stored one has no such bit", () -> {
      for (int kind = 0; kind < 4; kind++) {
        for (int bits : new int[] {1, 2, 3, 4, 57}) {
          CheckCodes x = new CheckCodes(bits, kind);
          int end = stored(x);
          String who = name(bits, kind) + "flips ";
          due(who + "of the last answers", x.flips(end - 1, end - 1) == 3, false);
          for (int bit : new int[] {-1, end, end + 1, LOWEST, HIGHEST}) {
            dueThrown(who + bit + " 0", INDEX, () -> x.flips(bit, 0));
            dueThrown(who + "0 " + bit, INDEX, () -> x.flips(0, bit));
            dueThrown(who + bit + " " + bit, INDEX, () -> x.flips(bit, bit));
            dueThrown(who + bit + " " + (end - 1), INDEX, () -> x.flips(bit, end - 1));
          }
        }
      }
    });
    sentence("12: Of all single flips (what 0 .. 3) and of all pairs (4 .. 7)", () -> {
      for (int kind = 0; kind < 4; kind++) {
        for (int bits = 1; bits <= 57; bits++) {
          int[] counts = new int[8];
          int end = stored(new CheckCodes(bits, kind));
          for (int a = 0; a < end; a++) {
            CheckCodes flipped = new CheckCodes(bits, kind);
            counts[flipped.flips(a, a)]++;
            for (int b = 0; b < a; b++) {
              counts[4 + flipped.flips(a, b)]++;
            }
          }
          CheckCodes x = new CheckCodes(bits, kind);
          for (int what = 7; what >= 0; what--) {
            due(name(bits, kind) + "table " + what, x.table(what), counts[what]);
          }
        }
      }
    });
    sentence("12: how many answer 0, 1, 2, 3 in flips()", () -> {
      // The least stored one: a bit and its sum, which cancel one another.
      dueTable(new CheckCodes(1, 1), 0, 0, 2, 0, 1, 0, 0, 0);
      dueTable(new CheckCodes(1, 0), 0, 5, 0, 0, 0, 0, 10, 0);
      // 57 + 4 bits: 16, 15, 15 and 15 in a sum, with its own: 120 + 3 * 105 pairs cancel.
      dueTable(new CheckCodes(57, 1), 0, 0, 61, 0, 435, 0, 1395, 0);
      // 17 whole nibbles with 6 pairs each, and one of a single bit.
      dueTable(new CheckCodes(57, 2), 0, 69, 0, 0, 0, 102, 2244, 0);
      // 81 bits: codes of 15 + 6 and three times 14 + 6: 210 + 3 * 190 pairs in one code.
      dueTable(new CheckCodes(57, 3), 0, 81, 0, 0, 0, 2460, 780, 0);
    });
    sentence("12: the table is the same behind addresses and readings", () -> {
      CheckCodes x = new CheckCodes(20, 3);
      x.address(77);
      x.read(5, 5);
      dueTable(x, 0, 40, 0, 0, 0, 600, 180, 0);
      x.plain();
      x.flips(0, 1);
      dueTable(x, 0, 40, 0, 0, 0, 600, 180, 0);
    });
    sentence("12: IndexOutOfBoundsException, for another what", () -> {
      for (int kind = 0; kind < 4; kind++) {
        CheckCodes x = new CheckCodes(1, kind);
        dueThrown("table -1", INDEX, () -> x.table(-1));
        dueThrown("table 8", INDEX, () -> x.table(8));
        for (int what : FAR) {
          dueThrown("table " + what, INDEX, () -> x.table(what));
        }
        due("table 0 behind it", x.table(0), 0);
      }
    });
  }

  private static void dueTable(CheckCodes x, int... want) {
    for (int what = 0; what < 8; what++) {
      due(name(x.size(0), x.size(2)) + "table " + what, x.table(what), want[what]);
    }
  }

  // ---- Promise 13

  private static boolean burstsByReading(int bits, int kind, int n) {
    for (int length = 1; length <= n; length++) {
      for (int pattern = 0; pattern < 1 << length; pattern++) {
        boolean edgesFlipped = (pattern & 1) == 1 && pattern >>> length - 1 == 1;
        if (edgesFlipped && !mendedEverywhere(new CheckCodes(bits, kind), pattern, length)) {
          return false;
        }
      }
    }
    return true;
  }

  private static boolean mendedEverywhere(CheckCodes x, int pattern, int length) {
    int bits = x.size(0);
    int end = stored(x);
    for (int first = 0; first + length <= end; first++) {
      long word = 0;
      int check = 0;
      for (int i = 0; i < length; i++) {
        if ((pattern >>> i & 1) == 1) {
          word |= wordPart(bits, first + i);
          check |= checkPart(bits, first + i);
        }
      }
      if (answerByReading(x, word, check) != 1) {
        return false;
      }
    }
    return true;
  }

  private static void promise13() {
    sentence("13: Whether all rows of flips of up to n bits one behind the other ...", () -> {
      for (int kind = 0; kind < 4; kind++) {
        for (int bits = 1; bits <= 57; bits++) {
          CheckCodes x = new CheckCodes(bits, kind);
          // The longest is asked first of some, the shortest of others.
          for (int i = 0; i < 6; i++) {
            int n = bits % 2 == 0 ? 1 + i : 6 - i;
            due(name(bits, kind) + "bursts " + n, x.bursts(n), burstsByReading(bits, kind, n));
          }
        }
      }
    });
    sentence("13: are mended rightly", () -> {
      for (int bits : new int[] {1, 57}) {
        due("one flip, sums", new CheckCodes(bits, 0).bursts(1), true);
        due("one flip, told by parities", new CheckCodes(bits, 1).bursts(1), false);
        due("one flip, nibbles", new CheckCodes(bits, 2).bursts(1), true);
        due("one flip, four", new CheckCodes(bits, 3).bursts(1), true);
        // Bits of one code's check stand beside one another, and nibbles do.
        for (int kind = 0; kind < 4; kind++) {
          due("two flips, kind " + kind, new CheckCodes(bits, kind).bursts(2), false);
          due("six flips, kind " + kind, new CheckCodes(bits, kind).bursts(6), false);
        }
      }
      CheckCodes folded = new CheckCodes(57, 0);
      folded.address(0x1234);
      due("one flip with an address", folded.bursts(1), true);
    });
    sentence("13: IllegalArgumentException, when n is not 1 .. 6", () -> {
      for (int kind = 0; kind < 4; kind++) {
        CheckCodes x = new CheckCodes(1, kind);
        for (int n : new int[] {0, 7, -1, LOWEST, LOWEST + 1, HIGHEST}) {
          dueThrown("bursts " + n, ARGUMENT, () -> x.bursts(n) ? 1 : 0);
        }
        due("bursts 1 behind it", x.bursts(1), kind != 1);
        due("bursts 6 behind it", x.bursts(6), false);
      }
    });
  }

  // ---- Promises 14 to 16

  /** Rows 1000 .. 1007 have spares 0 .. 7. */
  private static CheckCodes allSparesUsed() {
    CheckCodes x = new CheckCodes(8, 0);
    for (int i = 0; i < 8; i++) {
      x.spare(1000 + i);
    }
    return x;
  }

  private static void promises14To16() {
    sentence("14: A row (0 .. 65535) gets a spare one (0 .. 7), the lowest that is free", () -> {
      for (int kind = 0; kind < 4; kind++) {
        CheckCodes x = new CheckCodes(8, kind);
        int[] rows = {65535, 0, 7, 1, 32768, 32767, 65534, 8};
        for (int i = 0; i < 8; i++) {
          due("row " + rows[i], x.spare(rows[i]), i);
        }
        for (int i = 0; i < 8; i++) {
          due("spareOf " + rows[i], x.spareOf(rows[i]), i);
        }
      }
    });
    sentence("14: it keeps it: which", () -> {
      CheckCodes x = new CheckCodes(8, 0);
      for (int i = 0; i < 8; i++) {
        due("row " + i, x.spare(10 * i), i);
        due("row " + i + " again", x.spare(10 * i), i);
        due("row 0 again", x.spare(0), 0);
      }
      // None is free now, and a row keeps the one that it has.
      for (int i = 0; i < 8; i++) {
        due("row " + i + " with none free", x.spare(10 * i), i);
      }
    });
    sentence("14: IndexOutOfBoundsException, when there is no such row", () -> {
      CheckCodes x = new CheckCodes(8, 0);
      dueThrown("spare -1", INDEX, () -> x.spare(-1));
      dueThrown("spare 65536", INDEX, () -> x.spare(65536));
      for (int row : FAR) {
        dueThrown("spare " + row, INDEX, () -> x.spare(row));
      }
      due("a refused row takes none", x.spare(65535), 0);
    });
    sentence("14: UnsupportedOperationException, when none is free", () -> {
      CheckCodes x = allSparesUsed();
      for (int row : new int[] {0, 8, 999, 1008, 65535}) {
        dueThrown("spare " + row, UNSUPPORTED, () -> x.spare(row));
        due("spareOf " + row + " behind it", x.spareOf(row), NONE);
      }
      for (int i = 0; i < 8; i++) {
        due("row " + (1000 + i) + " behind it", x.spareOf(1000 + i), i);
      }
    });
    sentence("15: The spare one of a row, or NONE", () -> {
      CheckCodes x = new CheckCodes(8, 0);
      due("row 0 at first", x.spareOf(0), NONE);
      due("row 65535 at first", x.spareOf(65535), NONE);
      due("asking gives none", x.spare(5), 0);
      due("row 5", x.spareOf(5), 0);
      due("row 0", x.spareOf(0), NONE);
      due("row 0 gets one", x.spare(0), 1);
      due("row 0 has it", x.spareOf(0), 1);
      due("another object has none", new CheckCodes(8, 0).spareOf(5), NONE);
    });
    sentence("15: IndexOutOfBoundsException, when there is no such row", () -> {
      CheckCodes full = allSparesUsed();
      for (CheckCodes x : new CheckCodes[] {new CheckCodes(8, 0), full}) {
        dueThrown("spareOf -1", INDEX, () -> x.spareOf(-1));
        dueThrown("spareOf 65536", INDEX, () -> x.spareOf(65536));
        for (int row : FAR) {
          dueThrown("spareOf " + row, INDEX, () -> x.spareOf(row));
        }
      }
    });
    sentence("16: as a fraction that is reduced: above (what 0), below (1)", () -> {
      // No kind mends a pair to another one, so that it is 0 / 1 for all of them.
      for (int kind = 0; kind < 4; kind++) {
        for (int bits = 1; bits <= 57; bits++) {
          CheckCodes x = new CheckCodes(bits, kind);
          due(name(bits, kind) + "share 0", x.share(0), 0);
          due(name(bits, kind) + "share 1", x.share(1), 1);
          due(name(bits, kind) + "pairs mended to another one", x.table(7), 0);
        }
      }
    });
    sentence("16: IndexOutOfBoundsException, for another what", () -> {
      for (int kind = 0; kind < 4; kind++) {
        CheckCodes x = new CheckCodes(1, kind);
        dueThrown("share -1", INDEX, () -> x.share(-1));
        dueThrown("share 2", INDEX, () -> x.share(2));
        for (int what : FAR) {
          dueThrown("share " + what, INDEX, () -> x.share(what));
        }
        due("share 1 behind it", x.share(1), 1);
      }
    });
  }

  // ---- What belongs to all of them

  private static void everywhere() {
    sentence("An object is used for at most 512 calls", () -> {
      for (int kind = 0; kind < 4; kind++) {
        CheckCodes x = new CheckCodes(57, kind);
        int check = x.check(-1L);
        for (int call = 2; call < 512; call++) {
          due("call " + call, x.read(-1L, check), 0);
        }
        due("call 512", x.word(), -1L >>> 7);
      }
    });
    sentence("objects have nothing in common", () -> {
      CheckCodes a = new CheckCodes(20, 0);
      CheckCodes b = new CheckCodes(20, 0);
      a.address(1);
      a.read(1, 0);
      a.spare(3);
      due("address", b.plain(), false);
      due("spare", b.spareOf(3), NONE);
      dueLast("reading", b, 0, 0, 0);
    });
  }
}
