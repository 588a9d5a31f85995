import java.util.ArrayList;
import java.util.Arrays;
import java.util.Comparator;
import java.util.List;
import java.util.Random;

/**
 * Compares the class with a second writing of the document that follows its words over rows of
 * booleans: all numbers of bits in all kinds, and mixed runs of calls from a fixed seed.
 */
public final class ModelTest {
  private static final int GOOD = 0;
  private static final int MENDED = 1;
  private static final int TOLD = 2;

  /** Of an object's 512 calls each reading takes four: the call, and three that ask behind it. */
  private static final int READINGS_OF_ONE = 128;

  /** What a code does with a word and its check, without an address. */
  private abstract static class Model {
    int bits;
    int checkBits;

    abstract boolean[] check(boolean[] word);

    /** Changes both rows in place where it mends. */
    abstract int read(boolean[] word, boolean[] check);

    int greatestRowSum() {
      return 0;
    }

    abstract int column(int bit);
  }

  private static final class SumModel extends Model {
    final List<Integer> columns = new ArrayList<>();

    SumModel(int bits) {
      this.bits = bits;
      checkBits = 4;
      while (Math.pow(2, checkBits - 1) - checkBits < bits) {
        checkBits++;
      }
      while (columns.size() < bits) {
        List<Integer> free = new ArrayList<>();
        for (int c = 0; c < 1 << checkBits; c++) {
          if (Integer.bitCount(c) % 2 == 1 && Integer.bitCount(c) >= 3 && !columns.contains(c)) {
            free.add(c);
          }
        }
        free.sort(Comparator.<Integer>comparingInt(Integer::bitCount)
            .thenComparingInt(this::greatestWith)
            .thenComparingInt(c -> c));
        columns.add(free.get(0));
      }
    }

    int greatestWith(int column) {
      int greatest = 0;
      for (int row = 0; row < checkBits; row++) {
        int sum = column >> row & 1;
        for (int c : columns) {
          sum += c >> row & 1;
        }
        greatest = Math.max(greatest, sum);
      }
      return greatest;
    }

    @Override
    int greatestRowSum() {
      return greatestWith(0);
    }

    @Override
    int column(int bit) {
      return columns.get(bit);
    }

    @Override
    boolean[] check(boolean[] word) {
      int sum = 0;
      for (int k = 0; k < bits; k++) {
        if (word[k]) {
          sum ^= columns.get(k);
        }
      }
      return row(sum, checkBits);
    }

    @Override
    int read(boolean[] word, boolean[] check) {
      int syndrome = (int) (number(check) ^ number(check(word)));
      if (syndrome == 0) {
        return GOOD;
      }
      int k = columns.indexOf(syndrome);
      if (k >= 0) {
        word[k] ^= true;
        return MENDED;
      }
      for (int r = 0; r < checkBits; r++) {
        if (syndrome == 1 << r) {
          check[r] ^= true;
          return MENDED;
        }
      }
      return TOLD;
    }
  }

  private static final class ParityModel extends Model {
    ParityModel(int bits) {
      this.bits = bits;
      checkBits = bits < 4 ? bits : 4;
    }

    @Override
    boolean[] check(boolean[] word) {
      boolean[] check = new boolean[checkBits];
      for (int k = 0; k < bits; k++) {
        check[k % checkBits] ^= word[k];
      }
      return check;
    }

    @Override
    int read(boolean[] word, boolean[] check) {
      return Arrays.equals(check, check(word)) ? GOOD : TOLD;
    }

    @Override
    int column(int bit) {
      return 1 << bit % checkBits;
    }
  }

  private static final class NibbleModel extends Model {
    NibbleModel(int bits) {
      this.bits = bits;
      checkBits = 12;
    }

    static int times(int a, int b) {
      int product = 0;
      for (int i = 0; i < 4; i++) {
        if ((b >> i & 1) == 1) {
          product ^= a << i;
        }
      }
      for (int i = 6; i >= 4; i--) {
        if ((product >> i & 1) == 1) {
          product ^= 0b10011 << i - 4;
        }
      }
      return product;
    }

    static int power(int exponent) {
      int result = 1;
      for (int i = 0; i < exponent; i++) {
        result = times(result, 2);
      }
      return result;
    }

    int nibbles() {
      return (int) Math.ceil(bits / 4.0);
    }

    @Override
    boolean[] check(boolean[] word) {
      int[] sums = new int[3];
      for (int j = 0; j < nibbles(); j++) {
        int nibble = (int) (number(word) >>> 4 * j & 15);
        sums[0] ^= nibble;
        sums[1] ^= times(nibble, power(j));
        sums[2] ^= times(nibble, power(2 * j));
      }
      return row(sums[0] + 16 * sums[1] + 256 * sums[2], checkBits);
    }

    @Override
    int read(boolean[] word, boolean[] check) {
      int syndrome = (int) (number(check) ^ number(check(word)));
      int[] sums = {syndrome & 15, syndrome >> 4 & 15, syndrome >> 8 & 15};
      int others = 0;
      for (int sum : sums) {
        others += sum != 0 ? 1 : 0;
      }
      if (others == 0) {
        return GOOD;
      }
      if (others == 1) {
        for (int r = 0; r < checkBits; r++) {
          check[r] ^= (syndrome >> r & 1) == 1;
        }
        return MENDED;
      }
      int s = sums[0];
      int t = sums[1];
      int u = sums[2];
      if (others == 3 && times(t, t) == times(s, u)) {
        for (int j = 0; j < nibbles(); j++) {
          if (t == times(s, power(j)) && untouchedFrom(s, 4 * j)) {
            for (int i = 0; i < 4; i++) {
              if ((s >> i & 1) == 1) {
                word[4 * j + i] ^= true;
              }
            }
            return MENDED;
          }
        }
      }
      return TOLD;
    }

    boolean untouchedFrom(int s, int first) {
      for (int i = 0; i < 4; i++) {
        if ((s >> i & 1) == 1 && first + i >= bits) {
          return false;
        }
      }
      return true;
    }

    @Override
    int column(int bit) {
      throw new UnsupportedOperationException();
    }
  }

  private static final class FourModel extends Model {
    final SumModel[] codes = new SumModel[4];

    FourModel(int bits) {
      this.bits = bits;
      for (int i = 0; i < 4 && i < bits; i++) {
        codes[i] = new SumModel(part(new boolean[bits], i).length);
        checkBits += codes[i].checkBits;
      }
    }

    static boolean[] part(boolean[] word, int i) {
      boolean[] own = new boolean[0];
      for (int k = i; k < word.length; k += 4) {
        own = Arrays.copyOf(own, own.length + 1);
        own[own.length - 1] = word[k];
      }
      return own;
    }

    @Override
    boolean[] check(boolean[] word) {
      boolean[] check = new boolean[checkBits];
      int base = 0;
      for (int i = 0; i < 4 && codes[i] != null; i++) {
        boolean[] own = codes[i].check(part(word, i));
        System.arraycopy(own, 0, check, base, own.length);
        base += own.length;
      }
      return check;
    }

    @Override
    int read(boolean[] word, boolean[] check) {
      boolean[] newWord = word.clone();
      boolean[] newCheck = check.clone();
      boolean told = false;
      boolean mended = false;
      int base = 0;
      for (int i = 0; i < 4 && codes[i] != null; i++) {
        boolean[] ownWord = part(word, i);
        boolean[] ownCheck = Arrays.copyOfRange(check, base, base + codes[i].checkBits);
        int answer = codes[i].read(ownWord, ownCheck);
        told |= answer == TOLD;
        mended |= answer == MENDED;
        for (int k = 0; k < ownWord.length; k++) {
          newWord[4 * k + i] = ownWord[k];
        }
        System.arraycopy(ownCheck, 0, newCheck, base, ownCheck.length);
        base += ownCheck.length;
      }
      if (told) {
        return TOLD;
      }
      System.arraycopy(newWord, 0, word, 0, word.length);
      System.arraycopy(newCheck, 0, check, 0, check.length);
      return mended ? MENDED : GOOD;
    }

    @Override
    int greatestRowSum() {
      int greatest = 0;
      for (int i = 0; i < 4 && codes[i] != null; i++) {
        greatest = Math.max(greatest, codes[i].greatestRowSum());
      }
      return greatest;
    }

    @Override
    int column(int bit) {
      return codes[bit % 4].column(bit / 4);
    }
  }

  private static boolean[] row(long number, int length) {
    boolean[] row = new boolean[length];
    for (int i = 0; i < length; i++) {
      row[i] = (number >>> i & 1) == 1;
    }
    return row;
  }

  private static long number(boolean[] row) {
    long number = 0;
    for (int i = 0; i < row.length; i++) {
      if (row[i]) {
        number |= 1L << i;
      }
    }
    return number;
  }

  /** An object as the document tells it: a model, the address and what was read and spared. */
  private static final class Twin {
    final int kind;
    final Model model;
    Integer address = null;
    long lastWord = 0;
    int lastCheck = 0;
    int lastTurned = 0;
    final List<Integer> spared = new ArrayList<>();
    int[] counts = null;

    Twin(int bits, int kind) {
      this.kind = kind;
      model = kind == 0 ? new SumModel(bits)
          : kind == 1 ? new ParityModel(bits)
          : kind == 2 ? new NibbleModel(bits) : new FourModel(bits);
    }

    int stored() {
      return model.bits + model.checkBits;
    }

    boolean[] folded(boolean[] check) {
      boolean[] result = check.clone();
      if (address != null) {
        int both = address >>> 16 ^ address & 0xFFFF;
        for (int i = 0; i < 16; i++) {
          int place = (i + 3) % 16;
          if (place < result.length) {
            result[place] ^= (both >> i & 1) == 1;
          }
        }
      }
      return result;
    }

    int check(long word) {
      return (int) number(folded(model.check(row(word, model.bits))));
    }

    int read(long word, int check) {
      if ((check & 0xFFFFFFFFL) >> model.checkBits != 0) {
        throw new IllegalArgumentException();
      }
      boolean[] w = row(word, model.bits);
      boolean[] c = folded(row(check, model.checkBits));
      int answer = model.read(w, c);
      lastCheck = (int) number(folded(c));
      lastTurned = Long.bitCount(number(w) ^ number(row(word, model.bits)))
          + Integer.bitCount(lastCheck ^ check);
      lastWord = number(w);
      return answer;
    }

    /** Flips in a stored one of word 0; 3 where it is mended to another one. */
    int answerTo(boolean[] flips) {
      boolean[] word = Arrays.copyOf(flips, model.bits);
      boolean[] check = Arrays.copyOfRange(flips, model.bits, flips.length);
      int answer = model.read(word, check);
      boolean back = number(word) == 0 && number(check) == 0;
      return answer == MENDED && !back ? 3 : answer;
    }

    int flips(int a, int b) {
      if (a < 0 || b < 0 || a >= stored() || b >= stored()) {
        throw new IndexOutOfBoundsException();
      }
      boolean[] flips = new boolean[stored()];
      flips[a] = true;
      flips[b] = true;
      return answerTo(flips);
    }

    int table(int what) {
      if (what < 0 || what > 7) {
        throw new IndexOutOfBoundsException();
      }
      if (counts == null) {
        counts = new int[8];
        for (int a = 0; a < stored(); a++) {
          for (int b = 0; b <= a; b++) {
            counts[(a == b ? 0 : 4) + flips(a, b)]++;
          }
        }
      }
      return counts[what];
    }

    boolean bursts(int n) {
      if (n < 1 || n > 6) {
        throw new IllegalArgumentException();
      }
      for (int first = 0; first < stored(); first++) {
        for (int pattern = 1; pattern < 1 << n; pattern += 2) {
          boolean[] flips = new boolean[stored()];
          boolean fits = true;
          for (int i = 0; i < n; i++) {
            if ((pattern >> i & 1) == 1) {
              fits &= first + i < stored();
              if (first + i < stored()) {
                flips[first + i] = true;
              }
            }
          }
          if (fits && answerTo(flips) != MENDED) {
            return false;
          }
        }
      }
      return true;
    }

    int spareOf(int row) {
      if (row < 0 || row > 65535) {
        throw new IndexOutOfBoundsException();
      }
      return spared.indexOf(row);
    }

    int spare(int row) {
      if (spareOf(row) < 0) {
        if (spared.size() == 8) {
          throw new UnsupportedOperationException();
        }
        spared.add(row);
      }
      return spareOf(row);
    }

    int share(int what) {
      if (what < 0 || what > 1) {
        throw new IndexOutOfBoundsException();
      }
      int above = table(7);
      int below = table(4) + table(5) + table(6) + table(7);
      for (int d = below; d > 1; d--) {
        if (above % d == 0 && below % d == 0) {
          above /= d;
          below /= d;
        }
      }
      return what == 0 ? above : below;
    }

    int size(int what) {
      switch (what) {
        case 0: return model.bits;
        case 1: return model.checkBits;
        case 2: return kind;
        case 3: return model.greatestRowSum();
        default: return -1;
      }
    }

    int column(int bit) {
      if (bit < 0 || bit >= model.bits) {
        throw new IndexOutOfBoundsException();
      }
      return model.column(bit);
    }

    boolean address(int newAddress) {
      if (kind == 1 || kind == 2) {
        throw new UnsupportedOperationException();
      }
      boolean before = address != null;
      address = newAddress;
      return before;
    }

    boolean plain() {
      boolean before = address != null;
      address = null;
      return before;
    }
  }

  private interface Call {
    Object run();
  }

  private static int wrong = 0;

  private static String answer(Call call) {
    try {
      return String.valueOf(call.run());
    } catch (RuntimeException e) {
      return "throws." + e.getClass().getName();
    }
  }

  private static void same(String what, Call got, Call want) {
    String g = answer(got);
    String w = answer(want);
    if (!g.equals(w) && wrong++ < 50) {
      System.out.println(what + ": " + g + ", due is " + w);
    }
  }

  private static void sameState(String name, CheckCodes x, Twin t) {
    same(name + " word", x::word, () -> t.lastWord);
    same(name + " checkRead", x::checkRead, () -> t.lastCheck);
    same(name + " turned", x::turned, () -> t.lastTurned);
  }

  private static void everySize(int bits, int kind) {
    String name = "(" + bits + ", " + kind + ")";
    CheckCodes x = new CheckCodes(bits, kind);
    Twin t = new Twin(bits, kind);
    for (int what = -1; what < 6; what++) {
      int w = what;
      same(name + " size " + w, () -> x.size(w), () -> t.size(w));
    }
    for (int bit = -1; bit <= bits; bit++) {
      int b = bit;
      same(name + " column " + b, () -> x.column(b), () -> t.column(b));
      long word = bit < 0 ? -1L : 1L << bit;
      same(name + " check " + word, () -> x.check(word), () -> t.check(word));
    }
    for (int what = -1; what < 9; what++) {
      int w = what;
      same(name + " table " + w, () -> x.table(w), () -> t.table(w));
      same(name + " bursts " + w, () -> x.bursts(w), () -> t.bursts(w));
      same(name + " share " + w, () -> x.share(w), () -> t.share(w));
    }
    sameState(name, x, t);
  }

  /** Every syndrome of kinds 0, 1 and 2, so that each way of reading is gone through. */
  private static void everySyndrome(int bits, int kind) {
    Twin t = new Twin(bits, kind);
    int end = 1 << t.model.checkBits;
    for (int from = 0; from < end; from += READINGS_OF_ONE) {
      CheckCodes x = new CheckCodes(bits, kind);
      for (int check = from; check < from + READINGS_OF_ONE && check < end; check++) {
        int c = check;
        String name = "(" + bits + ", " + kind + ") read(0, " + c + ")";
        same(name, () -> x.read(0L, c), () -> t.read(0L, c));
        sameState(name, x, t);
      }
    }
  }

  private static int edge(Random random, int from, int to) {
    switch (random.nextInt(8)) {
      case 0: return from - 1;
      case 1: return to;
      case 2: return random.nextInt();
      case 3: return random.nextBoolean() ? Integer.MIN_VALUE : Integer.MAX_VALUE;
      default: return from + random.nextInt(to - from);
    }
  }

  private static void mixedRun(int run, Random random) {
    int bits = 1 + random.nextInt(57);
    int kind = random.nextInt(4);
    CheckCodes x = new CheckCodes(bits + 57 * (random.nextInt(200) - 100),
        kind + 4 * (random.nextInt(200) - 100));
    Twin t = new Twin(bits, kind);
    for (int call = 0; call < READINGS_OF_ONE; call++) {
      String name = "run " + run + " (" + bits + ", " + kind + ") call " + call;
      oneCall(name, x, t, random);
      sameState(name, x, t);
    }
  }

  private static void oneCall(String name, CheckCodes x, Twin t, Random random) {
    int stored = t.stored();
    switch (random.nextInt(14)) {
      case 0: {
        int a = edge(random, 0, 4);
        same(name + " size " + a, () -> x.size(a), () -> t.size(a));
        break;
      }
      case 1: {
        int a = edge(random, 0, t.model.bits);
        same(name + " column " + a, () -> x.column(a), () -> t.column(a));
        break;
      }
      case 2: {
        int a = random.nextInt();
        same(name + " address " + a, () -> x.address(a), () -> t.address(a));
        break;
      }
      case 3:
        same(name + " plain", x::plain, t::plain);
        break;
      case 4: {
        long a = random.nextLong();
        same(name + " check " + a, () -> x.check(a), () -> t.check(a));
        break;
      }
      case 5: {
        int a = edge(random, 0, stored);
        int b = edge(random, 0, stored);
        same(name + " flips " + a + " " + b, () -> x.flips(a, b), () -> t.flips(a, b));
        break;
      }
      case 6: {
        int a = edge(random, 0, 8);
        same(name + " table " + a, () -> x.table(a), () -> t.table(a));
        break;
      }
      case 7: {
        int a = edge(random, 1, 7);
        same(name + " bursts " + a, () -> x.bursts(a), () -> t.bursts(a));
        break;
      }
      case 8: {
        int a = random.nextBoolean() ? random.nextInt(12) : edge(random, 0, 65536);
        same(name + " spare " + a, () -> x.spare(a), () -> t.spare(a));
        break;
      }
      case 9: {
        int a = random.nextBoolean() ? random.nextInt(12) : edge(random, 0, 65536);
        same(name + " spareOf " + a, () -> x.spareOf(a), () -> t.spareOf(a));
        break;
      }
      case 10: {
        int a = edge(random, 0, 2);
        same(name + " share " + a, () -> x.share(a), () -> t.share(a));
        break;
      }
      case 11: {
        long word = random.nextLong();
        int check = random.nextInt(4) == 0 ? random.nextInt()
            : random.nextInt() >>> 32 - t.model.checkBits;
        same(name + " read " + word + " " + check, () -> x.read(word, check), () -> t.read(word, check));
        break;
      }
      default:
        readFlipped(name, x, t, random);
    }
  }

  private static void readFlipped(String name, CheckCodes x, Twin t, Random random) {
    long word = random.nextLong();
    int check = t.check(word);
    for (int flips = random.nextInt(5); flips > 0; flips--) {
      int bit = random.nextInt(t.stored());
      if (bit < t.model.bits) {
        word ^= 1L << bit;
      } else {
        check ^= 1 << bit - t.model.bits;
      }
    }
    long w = word;
    int c = check;
    same(name + " read " + w + " " + c, () -> x.read(w, c), () -> t.read(w, c));
  }

  public static void main(String[] args) {
    for (int kind = 0; kind < 4; kind++) {
      for (int bits = 1; bits <= 57; bits++) {
        everySize(bits, kind);
        if (kind != 3) {
          everySyndrome(bits, kind);
        }
      }
    }
    Random random = new Random(20261115L);
    for (int run = 0; run < 600; run++) {
      mixedRun(run, random);
    }
    System.out.println(wrong == 0 ? "class and model agree" : wrong + " answers are not the model's");
    if (wrong != 0) {
      System.exit(1);
    }
  }
}
