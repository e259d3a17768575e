/** What the tests of edges share: how an answer is asked, and how a house, a row, a law is told. */
final class Due {
  static final int BAD = -1, NOT = -2, FULL = -3, STATE = -5;
  static final int NOTHING = -11, KIND = -12, PLACE = -13, SIZE = -14;
  static final long BAD_LONG = Long.MIN_VALUE;
  static final int MAX = Integer.MAX_VALUE, MIN = Integer.MIN_VALUE;

  private static int asked = 0;
  private static int wrong = 0;

  private Due() {
  }

  static void due(String call, long got, long want) {
    asked++;
    if (got != want) {
      tell(call + " answered " + got + ", due is " + want);
    }
  }

  /** Any answer is due but this one. */
  static void isNot(String call, long got, long refusal) {
    asked++;
    if (got == refusal) {
      tell(call + " answered " + got + ", due is another");
    }
  }

  private static void tell(String what) {
    wrong++;
    if (wrong <= 100) {
      System.out.println(what);
    }
  }

  static void end() {
    System.out.println(asked + " answers asked, " + wrong + " not as due");
    if (wrong != 0 || asked == 0) {
      System.exit(1);
    }
  }

  /** What lies next to a range on both sides, far from it, and what would be in it by lower bits alone. */
  static int[] outside(int low, int high) {
    int[] some = {low - 1, high + 1, MIN, MAX, low - 256, high + 256, low - 65536, high + 65536};
    int many = 0;
    for (int v : some) {
      if (v < low || v > high) {
        some[many] = v;
        many++;
      }
    }
    return java.util.Arrays.copyOf(some, many);
  }

  /** The ends of a range and what lies next to them within it. */
  static int[] ends(int low, int high) {
    return (long) high - low < 3 ? java.util.stream.IntStream.rangeClosed(low, high).toArray()
        : new int[] {low, low + 1, high - 1, high};
  }

  static DustInOrder house(int... highsAndDraughts) {
    DustInOrder x = new DustInOrder();
    for (int i = 0; i < highsAndDraughts.length; i += 2) {
      x.sill(highsAndDraughts[i], highsAndDraughts[i + 1]);
    }
    return x;
  }

  static DustInOrder looks(DustInOrder x, int... lookings) {
    for (int looking : lookings) {
      x.look(looking);
    }
    return x;
  }

  /** Looks for one till so many grains of him have come (to SILLS without draught, without a text). */
  static void grow(DustInOrder x, int one, int grains) {
    for (int left = grains; left > 0; left -= 9) {
      x.look(10 * one + Math.min(9, left));
    }
  }

  /** LAYERS (WHOM, THICK) from below. */
  static DustInOrder grown(int... whomAndThick) {
    DustInOrder x = house(0, 0);
    for (int i = 0; i < whomAndThick.length; i += 2) {
      grow(x, whomAndThick[i], whomAndThick[i + 1]);
    }
    return x;
  }

  static void row(DustInOrder x, int shelf, int sort, long... values) {
    x.row(shelf, sort, values.length);
    for (int i = 0; i < values.length; i++) {
      x.put(shelf, i, values[i]);
    }
  }

  static void book(DustInOrder x, long... lookings) {
    row(x, 0, 0, lookings);
  }

  static void feed(DustInOrder x, String text) {
    for (int i = 0; i < text.length(); i++) {
      x.feed(text.charAt(i));
    }
  }

  static int law(DustInOrder x, String text) {
    feed(x, text);
    return x.law();
  }

  static String times(String part, int n) {
    return part.repeat(n);
  }

  static void lies(String name, DustInOrder x, int sill, int... whomAndThick) {
    int layers = whomAndThick.length / 2;
    due(name + ": how many", x.of(sill, 4), layers);
    int all = 0;
    for (int k = 0; k < layers; k++) {
      due(name + ": whom " + k, x.layer(sill, k, 0), whomAndThick[2 * k]);
      due(name + ": thick " + k, x.layer(sill, k, 1), whomAndThick[2 * k + 1]);
      all += whomAndThick[2 * k + 1];
    }
    due(name + ": above", x.layer(sill, layers, 0), NOT);
    due(name + ": all thick", x.of(sill, 5), all);
  }
}
