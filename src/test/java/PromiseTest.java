/** Each promise with answers worked out by hand: ordinary inputs, edges and wrong inputs. */
public final class PromiseTest {
  private static int wrong = 0;

  /** A call, so that what it throws can be compared too. */
  private interface Call {
    long run();
  }

  private static void due(String what, long got, long want) {
    if (got != want) {
      wrong++;
      System.out.println(what + " answered " + got + ", due is " + want);
    }
  }

  private static void due(String what, boolean got, boolean want) {
    due(what, got ? 1L : 0L, want ? 1L : 0L);
  }

  /** The class must be the very one: the machine's own are of classes below it. */
  private static void dueThrown(String what, Class<?> want, Call call) {
    String got;
    try {
      got = "answered " + call.run();
    } catch (RuntimeException e) {
      if (e.getClass() == want) {
        return;
      }
      got = "threw " + e.getClass().getName();
    }
    wrong++;
    System.out.println(what + " " + got + ", due is " + want.getName());
  }

  private static final Class<?> INDEX = IndexOutOfBoundsException.class;
  private static final Class<?> ARGUMENT = IllegalArgumentException.class;
  private static final Class<?> UNSUPPORTED = UnsupportedOperationException.class;
  private static final int LOWEST = Integer.MIN_VALUE;
  private static final int HIGHEST = Integer.MAX_VALUE;

  public static void main(String[] args) {
    newObject();
    size();
    column();
    addressAndPlain();
    check();
    readSums();
    readParities();
    readNibbles();
    readFour();
    readWithAddress();
    readingState();
    flips();
    table();
    bursts();
    spare();
    share();
    System.out.println(wrong == 0 ? "all promises hold" : wrong + " answers are not as due");
    if (wrong != 0) {
      System.exit(1);
    }
  }

  private static void dueMade(int bits, int kind, int m, int k) {
    CheckCodes x = new CheckCodes(bits, kind);
    due("bits of (" + bits + ", " + kind + ")", x.size(0), m);
    due("kind of (" + bits + ", " + kind + ")", x.size(2), k);
  }

  private static void newObject() {
    dueMade(1, 0, 1, 0);
    dueMade(57, 1, 57, 1);
    dueMade(58, 2, 1, 2);
    dueMade(0, 3, 57, 3);
    dueMade(-1, 4, 56, 0);
    dueMade(-56, -1, 1, 3);
    dueMade(-57, -4, 57, 0);
    // Modulo 57 2^18 is 1, so 2^31 is 2^13 = 8192 = 57 * 143 + 41: 2^31 - 2 is 39, -2^31 - 1 is 15.
    dueMade(HIGHEST, HIGHEST, 40, 3);
    dueMade(LOWEST, LOWEST, 16, 0);
    CheckCodes x = new CheckCodes(8, 0);
    due("no address at first", x.plain(), false);
    due("check of 0 at first", x.check(0), 0);
    due("no row is spared at first", x.spareOf(0), CheckCodes.NONE);
    due("first spare", x.spare(0), 0);
  }

  private static void size() {
    int[][] asked = {
      // bits, kind, R, greatest row sum (the 13 of 27 bits is not worked out by hand: it is what the
      // class answers, and ModelTest's own choice of columns agrees)
      {1, 0, 4, 1}, {4, 0, 4, 3}, {5, 0, 5, 4}, {11, 0, 5, 7}, {12, 0, 6, 6}, {26, 0, 6, 15},
      {27, 0, 7, 13}, {57, 0, 7, 31}, {1, 1, 1, 0}, {3, 1, 3, 0}, {4, 1, 4, 0}, {57, 1, 4, 0},
      {1, 2, 12, 0}, {57, 2, 12, 0}, {1, 3, 4, 1}, {2, 3, 8, 1}, {3, 3, 12, 1}, {4, 3, 16, 1},
      {16, 3, 16, 3}, {17, 3, 17, 4}, {44, 3, 20, 7}, {45, 3, 21, 7},
    };
    for (int[] a : asked) {
      CheckCodes x = new CheckCodes(a[0], a[1]);
      String name = "(" + a[0] + ", " + a[1] + ") size ";
      due(name + 0, x.size(0), a[0]);
      due(name + 1, x.size(1), a[2]);
      due(name + 2, x.size(2), a[1]);
      due(name + 3, x.size(3), a[3]);
      for (int what : new int[] {-1, 4, LOWEST, HIGHEST}) {
        due(name + what, x.size(what), CheckCodes.NONE);
      }
    }
  }

  private static void dueColumns(int bits, int kind, int... columns) {
    CheckCodes x = new CheckCodes(bits, kind);
    for (int i = 0; i < columns.length; i++) {
      due("(" + bits + ", " + kind + ") column " + i, x.column(i), columns[i]);
    }
    for (int bit : new int[] {-1, bits, LOWEST, HIGHEST}) {
      dueThrown("(" + bits + ", " + kind + ") column " + bit, INDEX, () -> x.column(bit));
    }
  }

  private static void column() {
    dueColumns(4, 0, 7, 11, 13, 14);
    // The greatest row sum rules before the number: behind 7 it is 2 with all that meet it.
    dueColumns(12, 0, 7, 56, 11, 52, 13, 50, 14, 49);
    dueColumns(6, 1, 1, 2, 4, 8, 1, 2);
    dueColumns(3, 1, 1, 2, 4);
    dueColumns(1, 1, 1);
    dueColumns(6, 3, 7, 7, 7, 7, 11, 11);
    CheckCodes full = new CheckCodes(57, 0);
    due("the last column of 57 bits", full.column(56), 127);
    due("the last column of 11 bits", new CheckCodes(11, 0).column(10), 31);
    CheckCodes nibbles = new CheckCodes(30, 2);
    dueThrown("kind 2 column 0", UNSUPPORTED, () -> nibbles.column(0));
    dueThrown("kind 2 column 29", UNSUPPORTED, () -> nibbles.column(29));
    dueThrown("kind 2 column 30", INDEX, () -> nibbles.column(30));
    dueThrown("kind 2 column -1", INDEX, () -> nibbles.column(-1));
  }

  private static void addressAndPlain() {
    for (int kind = 0; kind < 4; kind += 3) {
      CheckCodes x = new CheckCodes(57, kind);
      due("address first", x.address(0), false);
      due("check with address 0", x.check(0), 0);
      due("address 0 is one", x.plain(), true);
      due("plain twice", x.plain(), false);
      due("address again", x.address(1), false);
      due("address over another", x.address(2), true);
      due("the later address holds", x.check(0), 16);
      due("address LOWEST", x.address(LOWEST), true);
      // 0x8000 turned left by 3 in 16 bits is 4.
      due("check with address LOWEST", x.check(0), 4);
      due("check of a word with it", x.check(1), 3);
      due("plain", x.plain(), true);
      due("check without", x.check(1), 7);
    }
    CheckCodes wide = new CheckCodes(57, 3);
    wide.address(0x0000FFFF);
    due("the fold has 16 bits", wide.check(0), 0xFFFF);
    CheckCodes narrow = new CheckCodes(1, 0);
    narrow.address(0x0000FFFF);
    due("the lowest R bits alone", narrow.check(0), 15);
    for (int kind = 1; kind < 3; kind++) {
      CheckCodes x = new CheckCodes(20, kind);
      dueThrown("address of kind " + kind, UNSUPPORTED, () -> x.address(1) ? 1 : 0);
      due("plain of kind " + kind, x.plain(), false);
      due("check of kind " + kind, x.check(0), 0);
    }
  }

  private static void check() {
    CheckCodes sums = new CheckCodes(4, 0);
    due("sums of 0", sums.check(0), 0);
    due("sums of bits 0 and 1", sums.check(3), 7 ^ 11);
    due("sums, bits above M", sums.check(-1), 7 ^ 11 ^ 13 ^ 14);
    due("sums, only bits above M", sums.check(-16), 0);
    CheckCodes full = new CheckCodes(57, 0);
    due("sums, bit 56", full.check(1L << 56), 127);
    due("sums, bit 57", full.check(1L << 57), 0);
    CheckCodes parities = new CheckCodes(10, 1);
    due("parities of bits 0, 4, 9", parities.check(1 | 16 | 512), 2);
    due("parities of all", parities.check(-1), 3);
    CheckCodes three = new CheckCodes(3, 1);
    due("parities of three", three.check(-1), 7);
    CheckCodes nibbles = new CheckCodes(57, 2);
    due("nibbles, nibble 0", nibbles.check(9), 0x999);
    // g^4 is 3, g^8 is 5.
    due("nibbles, nibble 4", nibbles.check(1L << 16), 0x531);
    // g^14 is 9, g^28 is g^13 is 13.
    due("nibbles, nibble 14", nibbles.check(1L << 56), 0xD91);
    due("nibbles, bit 57", nibbles.check(1L << 57), 0);
    CheckCodes four = new CheckCodes(6, 3);
    due("four, bits 0 to 3", four.check(15), 0x7777);
    due("four, bits 4 and 5", four.check(48), 0xBB);
    CheckCodes two = new CheckCodes(2, 3);
    due("four, two codes empty", two.check(-1), 0x77);
  }

  private static void dueRead(String name, CheckCodes x, long word, int check, long... want) {
    String call = name + " read(" + word + ", " + check + ")";
    due(call, x.read(word, check), want[0]);
    due(call + " word", x.word(), want[1]);
    due(call + " check", x.checkRead(), want[2]);
    due(call + " turned", x.turned(), want[3]);
  }

  private static void dueRefused(String name, CheckCodes x, int... checks) {
    for (int check : checks) {
      dueThrown(name + " read(0, " + check + ")", ARGUMENT, () -> x.read(0, check));
    }
  }

  private static void readSums() {
    CheckCodes x = new CheckCodes(5, 0);
    dueRead("sums", x, 0, 0, 0, 0, 0, 0);
    dueRead("sums", x, 1, 7, 0, 1, 7, 0);
    dueRead("sums", x, -1, x.check(-1), 0, 31, x.check(31), 0);
    dueRead("sums", x, 1, 0, 1, 0, 0, 1);
    dueRead("sums", x, 0, 7, 1, 1, 7, 1);
    dueRead("sums", x, 1, 7 ^ 16, 1, 1, 7, 1);
    dueRead("sums", x, 0, 3, 2, 0, 3, 0);
    dueRead("sums", x, 3, 0, 2, 3, 0, 0);
    // Of odd weight, but no column of these five.
    dueRead("sums", x, 0, 31, 2, 0, 31, 0);
    dueRefused("sums", x, 32, -1, LOWEST, HIGHEST);
    dueRead("sums", new CheckCodes(57, 0), -1L ^ 1L << 56, new CheckCodes(57, 0).check(-1),
        1, (1L << 57) - 1, new CheckCodes(57, 0).check(-1), 1);
  }

  private static void readParities() {
    CheckCodes x = new CheckCodes(6, 1);
    dueRead("parities", x, 0, 0, 0, 0, 0, 0);
    dueRead("parities", x, 17, 0, 0, 17, 0, 0);
    dueRead("parities", x, 1, 0, 2, 1, 0, 0);
    dueRead("parities", x, 0, 8, 2, 0, 8, 0);
    dueRead("parities", x, -1, 12, 0, 63, 12, 0);
    dueRefused("parities", x, 16, -1, LOWEST);
    dueRefused("parities of two", new CheckCodes(2, 1), 4, 8);
  }

  private static void readNibbles() {
    CheckCodes x = new CheckCodes(10, 2);
    dueRead("nibbles", x, 0, 0, 0, 0, 0, 0);
    dueRead("nibbles", x, 0x0F0, 0, 1, 0, 0, 4);
    dueRead("nibbles", x, 0x0F0, x.check(0x0A0), 1, 0x0A0, x.check(0x0A0), 2);
    dueRead("nibbles", x, 0, 0x00B, 1, 0, 0, 3);
    dueRead("nibbles", x, 0, 0x0F0, 1, 0, 0, 4);
    dueRead("nibbles", x, 0, 0x100, 1, 0, 0, 1);
    // One of the three sums is 0.
    dueRead("nibbles", x, 0, 0x011, 2, 0, 0x011, 0);
    dueRead("nibbles", x, 0, 0x101, 2, 0, 0x101, 0);
    dueRead("nibbles", x, 0, 0x110, 2, 0, 0x110, 0);
    // t * t is not s * u.
    dueRead("nibbles", x, 0, 0x211, 2, 0, 0x211, 0);
    // Nibble 2 has just two bits: 3 may be turned, 4 may not.
    CheckCodes wide = new CheckCodes(12, 2);
    dueRead("nibbles", x, 0, wide.check(0x300), 1, 0x300, wide.check(0x300), 2);
    dueRead("nibbles", x, 0, wide.check(0x400), 2, 0, wide.check(0x400), 0);
    // Nibble 3 is none of the word's.
    int far = new CheckCodes(16, 2).check(0x1000);
    dueRead("nibbles", x, 0, far, 2, 0, far, 0);
    dueRead("nibbles", x, -1, x.check(-1), 0, 0x3FF, x.check(0x3FF), 0);
    dueRefused("nibbles", x, 4096, -1, LOWEST, HIGHEST);
    CheckCodes full = new CheckCodes(57, 2);
    dueRead("nibbles of 57", full, 1L << 56, 0, 1, 0, 0, 1);
  }

  private static void readFour() {
    CheckCodes x = new CheckCodes(20, 3);
    dueRead("four", x, 0, 0, 0, 0, 0, 0);
    dueRead("four", x, 0xF, 0, 1, 0, 0, 4);
    dueRead("four", x, 0x8421, 0, 1, 0, 0, 4);
    dueRead("four", x, 0, 1 | 1 << 9 | 1 << 14, 1, 0, 0, 3);
    dueRead("four", x, 1, 1 << 19, 1, 0, 0, 2);
    // Code 1 tells: what codes 0 and 3 would mend stays as it is.
    dueRead("four", x, 1 | 2 | 32 | 8, 0, 2, 43, 0, 0);
    dueRead("four", x, 1 | 8 | 128, 0, 2, 137, 0, 0);
    dueRead("four", x, -1, x.check(-1), 0, 0xFFFFF, x.check(-1), 0);
    dueRefused("four", x, 1 << 20, -1, LOWEST, HIGHEST);
    dueRefused("four of one bit", new CheckCodes(1, 3), 16);
    CheckCodes two = new CheckCodes(2, 3);
    dueRead("four of two bits", two, 3, 0, 1, 0, 0, 2);
    dueRead("four of two bits", two, 0, 0x80, 1, 0, 0, 1);
  }

  private static void readWithAddress() {
    CheckCodes x = new CheckCodes(32, 0);
    x.address(0x12345678);
    int check = x.check(77);
    dueRead("address", x, 77, check, 0, 77, check, 0);
    dueRead("address", x, 76, check, 1, 77, check, 1);
    dueRead("address", x, 77, check ^ 64, 1, 77, check, 1);
    x.plain();
    dueRead("another address", x, 77, check, 2, 77, check, 0);
  }

  private static void readingState() {
    CheckCodes x = new CheckCodes(8, 0);
    due("word at first", x.word(), 0);
    due("check at first", x.checkRead(), 0);
    due("turned at first", x.turned(), 0);
    x.read(1 | 256, 0);
    x.read(2, 7 ^ 11);
    due("word", x.word(), 3);
    due("check", x.checkRead(), 12);
    due("turned", x.turned(), 1);
    dueRefused("state", x, 32);
    x.flips(0, 1);
    x.table(1);
    x.bursts(1);
    x.check(200);
    x.address(9);
    x.plain();
    due("word stays", x.word(), 3);
    due("check stays", x.checkRead(), 12);
    due("turned stays", x.turned(), 1);
    x.read(3, 12);
    due("turned by a good reading", x.turned(), 0);
  }

  private static void flips() {
    CheckCodes sums = new CheckCodes(8, 0);
    due("sums, one of the word", sums.flips(0, 0), 1);
    due("sums, one of the check", sums.flips(12, 12), 1);
    due("sums, two", sums.flips(7, 8), 2);
    sums.address(0x5A5A1234);
    due("sums with an address, one", sums.flips(3, 3), 1);
    due("sums with an address, two", sums.flips(3, 4), 2);
    CheckCodes parities = new CheckCodes(8, 1);
    due("parities, one", parities.flips(2, 2), 2);
    due("parities, two in one sum", parities.flips(2, 6), 0);
    due("parities, a bit and its sum", parities.flips(2, 10), 0);
    due("parities, two sums", parities.flips(2, 3), 2);
    CheckCodes nibbles = new CheckCodes(8, 2);
    due("nibbles, in one", nibbles.flips(4, 7), 1);
    due("nibbles, in two", nibbles.flips(3, 4), 2);
    due("nibbles, in one of the check", nibbles.flips(8, 11), 1);
    due("nibbles, in two of the check", nibbles.flips(11, 12), 2);
    CheckCodes four = new CheckCodes(8, 3);
    due("four, in two codes", four.flips(0, 1), 1);
    due("four, in one code", four.flips(0, 4), 2);
    due("four, a check's bit of one code", four.flips(0, 8), 2);
    due("four, a check's bit of another", four.flips(0, 12), 1);
    for (CheckCodes x : new CheckCodes[] {sums, parities, nibbles, four}) {
      int stored = x.size(0) + x.size(1);
      due("the last bit", x.flips(stored - 1, stored - 1), x == parities ? 2 : 1);
      for (int bit : new int[] {-1, stored, LOWEST, HIGHEST}) {
        dueThrown("flips(" + bit + ", 0)", INDEX, () -> x.flips(bit, 0));
        dueThrown("flips(0, " + bit + ")", INDEX, () -> x.flips(0, bit));
      }
    }
  }

  private static void dueTable(int bits, int kind, int... want) {
    CheckCodes x = new CheckCodes(bits, kind);
    for (int pass = 0; pass < 2; pass++) {
      for (int what = 0; what < 8; what++) {
        due("(" + bits + ", " + kind + ") table " + what, x.table(what), want[what]);
      }
    }
    for (int what : new int[] {-1, 8, LOWEST, HIGHEST}) {
      dueThrown("table " + what, INDEX, () -> x.table(what));
    }
  }

  private static void table() {
    dueTable(1, 0, 0, 5, 0, 0, 0, 0, 10, 0);
    dueTable(57, 0, 0, 64, 0, 0, 0, 0, 2016, 0);
    dueTable(1, 1, 0, 0, 2, 0, 1, 0, 0, 0);
    // Bits 0, 4 and check bit 0 make three pairs that cancel, the other sums one each.
    dueTable(5, 1, 0, 0, 9, 0, 6, 0, 30, 0);
    // Nibbles of 4, 1, 4, 4, 4 bits: 6 pairs in each whole one.
    dueTable(5, 2, 0, 17, 0, 0, 0, 24, 112, 0);
    // Codes of 1 + 4 bits: 10 pairs in each of two.
    dueTable(2, 3, 0, 10, 0, 0, 0, 25, 20, 0);
  }

  private static void bursts() {
    for (int kind = 0; kind < 4; kind++) {
      for (int bits : new int[] {1, 4, 20, 57}) {
        CheckCodes x = new CheckCodes(bits, kind);
        String name = "(" + bits + ", " + kind + ") bursts ";
        // From 2 on: a check's bits of one code stand together, the check's nibbles end beside bits.
        for (int n = 6; n >= 1; n--) {
          due(name + n, x.bursts(n), n == 1 && kind != 1);
        }
        for (int n : new int[] {0, 7, -1, LOWEST, HIGHEST}) {
          dueThrown(name + n, ARGUMENT, () -> x.bursts(n) ? 1 : 0);
        }
      }
    }
  }

  private static void spare() {
    CheckCodes x = new CheckCodes(8, 2);
    due("spareOf at first", x.spareOf(65535), CheckCodes.NONE);
    due("spare 65535", x.spare(65535), 0);
    due("spare 0", x.spare(0), 1);
    due("spare 65535 again", x.spare(65535), 0);
    due("spareOf 0", x.spareOf(0), 1);
    due("spareOf does not give one", x.spareOf(1), CheckCodes.NONE);
    for (int i = 2; i < 8; i++) {
      due("spare " + i, x.spare(100 * i), i);
    }
    dueThrown("spare of a ninth", UNSUPPORTED, () -> x.spare(1));
    due("spareOf the ninth", x.spareOf(1), CheckCodes.NONE);
    due("a row keeps its spare when none is free", x.spare(300), 3);
    due("spareOf the last", x.spareOf(700), 7);
    for (int row : new int[] {-1, 65536, LOWEST, HIGHEST}) {
      dueThrown("spare " + row + " when none is free", INDEX, () -> x.spare(row));
      dueThrown("spareOf " + row, INDEX, () -> x.spareOf(row));
      dueThrown("spare " + row, INDEX, () -> new CheckCodes(8, 0).spare(row));
    }
  }

  private static void share() {
    for (int kind = 0; kind < 4; kind++) {
      CheckCodes x = new CheckCodes(20, kind);
      // No kind mends a pair to another one, so the reduced fraction is 0 / 1.
      due("share 0 of kind " + kind, x.share(0), 0);
      due("share 1 of kind " + kind, x.share(1), 1);
      for (int what : new int[] {-1, 2, LOWEST, HIGHEST}) {
        dueThrown("share " + what, INDEX, () -> x.share(what));
      }
    }
  }
}
