/** The boundary cases of part 5 of 'Terms' (acts, shelves) and of promises 36 to 45. */
public final class ShelfEdges {
  private static final int BAD = Due.BAD, FULL = Due.FULL;
  private static final int NOTHING = Due.NOTHING, KIND = Due.KIND, PLACE = Due.PLACE, SIZE = Due.SIZE;
  private static final int MAX = Due.MAX, MIN = Due.MIN;

  // "BODIES 0 .. 49 are kept by call, of KINDS: 0 .. 7"; "BAD, FULL"
  private static void fiftyBodies() {
    DustInOrder x = new DustInOrder();
    for (int n = 0; n < 50; n++) {
      Due.due("37: not yet " + n, x.act(n, 0, 7), 0);
      Due.due("39: not yet " + n, x.keep(0, n), BAD);
      Due.due("36: " + n, x.body(7 - n % 8), n);
      Due.due("45: BODIES", x.count(3), n + 1);
      Due.due("39: now " + n, x.keep(0, n), 1);
      Due.due("44: now " + n, x.taken(0, 0), 7 - n % 8);
    }
    Due.due("36: the 51st", x.body(0), FULL);
    Due.due("36: the 51st", x.body(7), FULL);
    Due.due("36: BAD is named ahead of FULL", x.body(-1), BAD);
    Due.due("36: BAD is named ahead of FULL", x.body(8), BAD);
    Due.due("45: fifty", x.count(3), 50);
    Due.due("39: the last", x.keep(1, 49), 1);
    Due.due("39: the 51st", x.keep(1, 50), BAD);
    Due.due("44: the last", x.taken(1, 6), 6);
    Due.due("37: the last, by its number", x.act(49, 2, 0), 49);
    Due.due("37: the 51st", x.act(50, 2, 0), 0);
    for (int kind : Due.outside(0, 7)) {
      DustInOrder y = new DustInOrder();
      Due.due("36: " + kind, y.body(kind), BAD);
      Due.due("45: none", y.count(3), 0);
    }
  }

  private static DustInOrder withKinds(int many) {
    DustInOrder x = new DustInOrder();
    for (int n = 0; n < many; n++) {
      x.body(n % 8);
    }
    return x;
  }

  private static long lies(int kind, int n, long x) {
    long plain = x + n;
    return kind == 1 || kind == 4 ? plain + 3 : kind == 6 ? plain * 2 : kind == 7 ? plain * 2 - 1 : plain;
  }

  private static long reads(int kind, int n, long x) {
    if (kind == 2) {
      return -2 * lies(kind, n, x);
    }
    if (kind == 3 || kind == 5) {
      return -2 * lies(kind, n, x + 1);
    }
    return 2 * lies(kind, n, x) + (kind == 7 ? 2 ^ n : 0);
  }

  private static long falls(int kind, int n, long x) {
    long plain = (int) x ^ n;
    return kind == 3 ? plain * 3 : kind == 5 ? plain * 3 - lies(kind, n, 2) : plain;
  }

  private static long tells(int kind, int n, long x) {
    long plain = reads(kind, n, x) - falls(kind, n, 1);
    return kind == 4 ? (int) plain ^ 5 : kind == 5 ? plain + 1 : plain;
  }

  // "1 lies: x + n" to "81 lies: super.lies(x) - 1", each worked out by hand for x 5, where the number is the KIND
  private static void byHand() {
    int[][] liesReadsFallsTells = {
      // 5 + 0; twice that; 5 ^ 0; 10 - (1 ^ 0)
      {5, 10, 5, 9},
      // 5 + 1 + 3; twice that; 5 ^ 1; 18 - (1 ^ 1)
      {9, 18, 4, 18},
      // 5 + 2; less twice that; 5 ^ 2; -14 - (1 ^ 2)
      {7, -14, 7, -17},
      // 5 + 3; less twice (6 + 3); thrice (5 ^ 3); -18 - thrice (1 ^ 3)
      {8, -18, 18, -24},
      // 5 + 4 + 3; twice that; 5 ^ 4; (24 - (1 ^ 4)) ^ 5
      {12, 24, 1, 22},
      // 5 + 5; less twice (6 + 5); thrice (5 ^ 5) less (2 + 5); -22 - (thrice (1 ^ 5) less 7) + 1
      {10, -22, -7, -26},
      // twice (5 + 6); twice that; 5 ^ 6; 44 - (1 ^ 6)
      {22, 44, 3, 37},
      // twice (5 + 7) less 1; twice that and (2 ^ 7); 5 ^ 7; 51 - (1 ^ 7)
      {23, 51, 2, 45}};
    DustInOrder x = withKinds(8);
    for (int kind = 0; kind < 8; kind++) {
      for (int act = 0; act < 4; act++) {
        Due.due("37: " + act + " of KIND " + kind, x.act(kind, act, 5), liesReadsFallsTells[kind][act]);
      }
    }
  }

  // "ACTS with x (an int that wraps): 0 lies, 1 reads, 2 falls, 3 tells; n its number"
  private static void wrapping() {
    int[] xs = {0, 1, -1, 2, -2, MAX, MAX - 1, MAX - 49, MIN, MIN + 1, 1 << 30, -(1 << 30), (1 << 30) - 50, 0x2aaaaaaa,
      0x55555555, -49, -50};
    for (int n : new int[] {0, 1, 2, 3, 4, 5, 6, 7, 42, 43, 44, 45, 46, 47, 48, 49}) {
      DustInOrder x = withKinds(50);
      int kind = n % 8;
      for (int v : xs) {
        Due.due("37: lies(" + v + ") of " + n, x.act(n, 0, v), (int) lies(kind, n, v));
        Due.due("37: reads(" + v + ") of " + n, x.act(n, 1, v), (int) reads(kind, n, v));
        Due.due("37: falls(" + v + ") of " + n, x.act(n, 2, v), (int) falls(kind, n, v));
        Due.due("37: tells(" + v + ") of " + n, x.act(n, 3, v), (int) tells(kind, n, v));
      }
    }
    // by hand: where it wraps just so
    DustInOrder x = withKinds(8);
    Due.due("37: MAX + 1 + 3", x.act(1, 0, MAX), MIN + 3);
    Due.due("37: twice 2^30", x.act(0, 1, 1 << 30), MIN);
    Due.due("37: less the least is the least", x.act(2, 1, (1 << 30) - 2), MIN);
    Due.due("37: MIN less 1", x.act(7, 0, (1 << 30) - 7), MAX);
    Due.due("37: MAX and 1 ahead of it", x.act(3, 1, MAX), -6);
    Due.due("37: thrice MAX", x.act(3, 2, MAX ^ 3), MAX - 2);
  }

  // "0, and no TRACE then: no such BODY, ACT."
  private static void noSuchOnes() {
    DustInOrder x = withKinds(1);
    for (int act : Due.outside(0, 3)) {
      x.act(0, 3, 1);
      Due.due("45: four ran", x.count(4), 4);
      Due.due("37: ACT " + act, x.act(0, act, 77), 0);
      Due.due("38: no TRACE then", x.trace(0), BAD);
      Due.due("45: none ran", x.count(4), 0);
    }
    for (int body : Due.outside(0, 0)) {
      x.act(0, 3, 1);
      Due.due("37: BODY " + body, x.act(body, 0, 77), 0);
      Due.due("38: no TRACE then", x.trace(0), BAD);
      Due.due("45: none ran", x.count(4), 0);
    }
    Due.due("45: nothing else comes of it", x.count(3), 1);
    DustInOrder none = new DustInOrder();
    Due.due("37: no BODIES", none.act(0, 0, 5), 0);
  }

  // the numbers of the bodies as they begin, by KIND and ACT
  private static final int[][][] TRACES = {
    {{1}, {10, 1}, {11}, {2, 10, 1, 11}},
    {{20, 1}, {10, 20, 1}, {11}, {2, 10, 20, 1, 11}},
    {{1}, {30, 10, 1}, {11}, {2, 30, 10, 1, 11}},
    {{1}, {41, 30, 10, 1}, {40, 11}, {2, 41, 30, 10, 1, 40, 11}},
    {{20, 1}, {10, 20, 1}, {11}, {50, 2, 10, 20, 1, 11}},
    {{1}, {41, 30, 10, 1}, {60, 40, 11, 1}, {61, 2, 41, 30, 10, 1, 60, 40, 11, 1}},
    {{70, 1}, {10, 70, 1}, {11}, {2, 10, 70, 1, 11}},
    {{81, 70, 1}, {80, 10, 81, 70, 1, 11}, {11}, {2, 80, 10, 81, 70, 1, 11, 11}},
  };

  // "THE TRACE: numbers of the bodies that ran in the latest act(), as they began; the first 24 are kept"
  private static void traces() {
    // no act runs more than ten, so that 24 are never full; from the longest to the shortest nothing is left over
    for (int kind = 0; kind < 8; kind++) {
      for (int act = 0; act < 4; act++) {
        DustInOrder x = withKinds(8);
        Due.due("38: none yet", x.trace(0), BAD);
        Due.due("45: none yet", x.count(4), 0);
        x.act(5, 3, 9);
        x.act(kind, act, -3);
        int[] want = TRACES[kind][act];
        Due.due("45: ran", x.count(4), want.length);
        for (int i = 0; i < want.length; i++) {
          Due.due("38: " + i + " of " + act + " of " + kind, x.trace(i), want[i]);
        }
        for (int i : new int[] {want.length, 23, 24, 25, 256, MAX, -1, MIN}) {
          Due.due("38: " + i, x.trace(i), BAD);
        }
      }
    }
  }

  // "A SHELF holds nothing (body -1), or a BODY: 1. BAD."
  private static void keeping() {
    DustInOrder x = withKinds(2);
    for (int shelf = 0; shelf <= 5; shelf++) {
      Due.due("39: nothing on nothing", x.keep(shelf, -1), 1);
      Due.due("44: nothing", x.taken(shelf, 0), NOTHING);
      Due.due("39: the last BODY", x.keep(shelf, 1), 1);
      Due.due("44: it", x.taken(shelf, 0), 1);
      for (int body : new int[] {2, -2, 50, 256, MAX, MIN}) {
        Due.due("39: BODY " + body, x.keep(shelf, body), BAD);
        Due.due("44: still it", x.taken(shelf, 1), 1);
      }
      Due.due("39: the first BODY", x.keep(shelf, 0), 1);
      Due.due("44: it", x.taken(shelf, 0), 0);
      Due.due("39: nothing", x.keep(shelf, -1), 1);
      Due.due("44: nothing then", x.taken(shelf, 0), NOTHING);
    }
    for (int shelf : Due.outside(0, 5)) {
      Due.due("39: SHELF " + shelf, x.keep(shelf, 0), BAD);
      Due.due("39: SHELF " + shelf, x.keep(shelf, -1), BAD);
    }
    // on a ROW
    x.row(0, 3, 5);
    Due.due("39: a BODY instead of a ROW", x.keep(0, 1), 1);
    Due.due("41: no ROW any more", x.put(0, 0, 1), KIND);
    x.row(0, 3, 5);
    Due.due("39: nothing instead of a ROW", x.keep(0, -1), 1);
    Due.due("41: no ROW any more", x.put(0, 0, 1), NOTHING);
  }

  // "of 0 .. 60 elements, 0 at first (false)"; "A SHELF holds a ROW: 1. BAD (sort, n above 60); -14."
  private static void rows() {
    for (int sort = 0; sort <= 4; sort++) {
      for (int n : new int[] {0, 1, 2, 59, 60}) {
        DustInOrder x = new DustInOrder();
        Due.due("40: " + n + " of " + sort, x.row(5, sort, n), 1);
        for (int i = 0; i < n; i++) {
          Due.due("40: 0 at first", x.element(5, i), 0);
        }
        Due.due("42: one below", x.element(5, -1), Due.BAD_LONG);
        Due.due("42: one above", x.element(5, n), Due.BAD_LONG);
        Due.due("41: one below", x.put(5, -1, 1), PLACE);
        Due.due("41: one above", x.put(5, n, 1), PLACE);
        if (n > 0) {
          Due.due("41: the last", x.put(5, n - 1, 1), 1);
          Due.due("42: the last", x.element(5, n - 1), 1);
          Due.due("40: anew", x.row(5, sort, n), 1);
          Due.due("40: 0 at first, anew", x.element(5, n - 1), 0);
        }
      }
    }
    DustInOrder x = new DustInOrder();
    for (int n : new int[] {61, 62, 256, 65536, MAX}) {
      Due.due("40: " + n, x.row(0, 0, n), BAD);
      Due.due("44: nothing came", x.taken(0, 0), NOTHING);
    }
    for (int n : new int[] {-1, -60, -256, MIN}) {
      Due.due("40: " + n, x.row(0, 0, n), SIZE);
      Due.due("44: nothing came", x.taken(0, 0), NOTHING);
      Due.due("40: BAD is named ahead of -14, sort", x.row(0, 5, n), BAD);
      Due.due("40: BAD is named ahead of -14, sort", x.row(0, -1, n), BAD);
      Due.due("40: BAD is named ahead of -14, SHELF", x.row(6, 0, n), BAD);
      Due.due("40: BAD is named ahead of -14, SHELF", x.row(-1, 0, n), BAD);
    }
  }

  // a longer ROW, a shorter one, a longer one again: nothing is left over
  private static void rowsAnew() {
    DustInOrder x = new DustInOrder();
    x.row(0, 3, 60);
    for (int i = 0; i < 60; i++) {
      x.put(0, i, -1);
    }
    x.row(0, 4, 1);
    Due.due("40: a boolean", x.element(0, 0), 0);
    Due.due("42: only one", x.element(0, 1), Due.BAD_LONG);
    x.row(0, 3, 60);
    for (int i = 0; i < 60; i++) {
      Due.due("40: 0 at first", x.element(0, i), 0);
    }
  }

  // "what is put in keeps its lowest bits (a boolean: whether it is not 0; 1 or 0)"
  private static void lowestBits() {
    int[] bits = {8, 16, 32, 64};
    for (int sort = 0; sort <= 3; sort++) {
      long most = Long.MAX_VALUE >> (64 - bits[sort]);
      long least = -most - 1;
      long[] same = {0, 1, -1, most, least, most - 1, least + 1};
      DustInOrder x = new DustInOrder();
      x.row(2, sort, 3);
      for (long v : same) {
        Due.due("41: " + v, x.put(2, 1, v), 1);
        Due.due("42: sort " + sort + " holds " + v, x.element(2, 1), v);
      }
      if (sort < 3) {
        long all = 1L << bits[sort];
        long[][] wraps = {{most + 1, least}, {least - 1, most}, {all - 1, -1}, {all, 0}, {all + 1, 1}, {-all, 0}, {3 * all + 5, 5},
          {Long.MAX_VALUE, -1}, {Long.MIN_VALUE, 0}, {Long.MIN_VALUE + 7, 7}};
        for (long[] w : wraps) {
          x.put(2, 1, w[0]);
          Due.due("42: sort " + sort + " of " + w[0], x.element(2, 1), w[1]);
        }
      }
      Due.due("42: one below", x.element(2, 0), 0);
      Due.due("42: one above", x.element(2, 2), 0);
    }
    DustInOrder x = new DustInOrder();
    x.row(2, 4, 1);
    for (long v : new long[] {1, -1, 2, 256, 65536, 1L << 31, 1L << 32, 1L << 63, Long.MAX_VALUE, Long.MIN_VALUE + 1}) {
      x.put(2, 0, 0);
      Due.due("42: false", x.element(2, 0), 0);
      x.put(2, 0, v);
      Due.due("42: true by " + v, x.element(2, 0), 1);
    }
  }

  // "-11 nothing is there where something is wanted; -12 it is of another kind; -13 a place that is not there"
  private static void refusals() {
    DustInOrder x = withKinds(1);
    for (int i : new int[] {0, -1, 60, MAX, MIN}) {
      Due.due("41: nothing there, " + i, x.put(0, i, 1), NOTHING);
      Due.due("42: nothing there, " + i, x.element(0, i), Due.BAD_LONG);
    }
    x.keep(0, 0);
    for (int i : new int[] {0, -1, 60, MAX, MIN}) {
      Due.due("41: a body, " + i, x.put(0, i, 1), KIND);
      Due.due("42: a body, " + i, x.element(0, i), Due.BAD_LONG);
    }
    x.row(0, 1, 60);
    for (int i : new int[] {-1, 60, 61, 256, 65536, MAX, MIN}) {
      Due.due("41: no place, " + i, x.put(0, i, 1), PLACE);
      Due.due("42: no place, " + i, x.element(0, i), Due.BAD_LONG);
    }
    for (int shelf : Due.outside(0, 5)) {
      Due.due("41: BAD is named ahead of -13", x.put(shelf, -1, 1), BAD);
      Due.due("42: BAD", x.element(shelf, -1), Due.BAD_LONG);
      Due.due("44: BAD is named ahead of -11", x.taken(shelf, 0), BAD);
    }
    Due.due("44: a ROW", x.taken(0, 0), KIND);
    Due.due("44: BAD is named ahead of -12", x.taken(0, 8), BAD);
    Due.due("44: BAD is named ahead of -12", x.taken(0, -1), BAD);
    Due.due("44: BAD is named ahead of -11", x.taken(1, 8), BAD);
    Due.due("44: nothing there", x.taken(1, 7), NOTHING);
  }

  // "n elements of a ROW from i on come to another one (or the same) from j on, as they all were before: n"
  private static void shiftedInItself() {
    for (int size : new int[] {1, 2, 5, 60}) {
      for (int i : new int[] {0, 1, size - 1, size}) {
        for (int j : new int[] {0, 1, size - 1, size}) {
          int n = size - Math.max(i, j);
          if (n < 0) {
            continue;
          }
          DustInOrder x = new DustInOrder();
          x.row(0, 2, size);
          for (int k = 0; k < size; k++) {
            x.put(0, k, 100 + k);
          }
          String name = "43: " + n + " of " + size + " from " + i + " to " + j;
          Due.due(name + ", one more", x.shift(0, i, 0, j, n + 1), PLACE);
          Due.due(name, x.shift(0, i, 0, j, n), n);
          for (int k = 0; k < size; k++) {
            Due.due(name + ", " + k, x.element(0, k), k >= j && k < j + n ? 100 + k - j + i : 100 + k);
          }
        }
      }
    }
  }

  // of each sort, the whole ROW and its ends, to another one
  private static void shiftedToAnother() {
    for (int sort = 0; sort <= 4; sort++) {
      DustInOrder x = new DustInOrder();
      Due.row(x, 0, sort, 1, 0, 1, 0, 1);
      Due.row(x, 5, sort, 0, 1, 0);
      Due.due("43: the last one to the first place", x.shift(0, 4, 5, 0, 1), 1);
      Due.due("43: came", x.element(5, 0), 1);
      Due.due("43: all that fit", x.shift(0, 1, 5, 0, 3), 3);
      for (int k = 0; k < 3; k++) {
        Due.due("43: came", x.element(5, k), k == 1 ? 1 : 0);
      }
      Due.due("43: none of none", x.shift(0, 5, 5, 3, 0), 0);
      Due.due("43: all of it back", x.shift(5, 0, 0, 2, 3), 3);
      long[] want = {1, 0, 0, 1, 0};
      for (int k = 0; k < 5; k++) {
        Due.due("43: " + k, x.element(0, k), want[k]);
      }
      for (int other = 0; other <= 4; other++) {
        x.row(1, other, 5);
        Due.due("43: from " + sort + " to " + other, x.shift(0, 0, 1, 0, 2), other == sort ? 2 : KIND);
        Due.due("43: none from " + sort + " to " + other, x.shift(0, 0, 1, 0, 0), other == sort ? 0 : KIND);
        Due.due("42: came", x.element(1, 0), other == sort ? 1 : 0);
      }
    }
    DustInOrder x = new DustInOrder();
    x.row(0, 0, 0);
    Due.due("43: none of no elements", x.shift(0, 0, 0, 0, 0), 0);
    Due.due("43: one of no elements", x.shift(0, 0, 0, 0, 1), PLACE);
    Due.due("43: place 1 of no elements", x.shift(0, 1, 0, 0, 0), PLACE);
    Due.due("43: to place 1 of no elements", x.shift(0, 0, 0, 1, 0), PLACE);
  }

  // "BAD, -11 (either), -12 (no ROWS, or of unlike sorts), -13 (n below 0, too)"
  private static void shiftRefused() {
    int[][] places = {{-1, 0, 1}, {0, -1, 1}, {0, 0, -1}, {5, 0, 1}, {0, 3, 1}, {6, 0, 0}, {0, 4, 0}, {0, 0, 4}, {3, 0, 3}, {0, 1, 3},
      {MAX, 0, 1}, {0, MAX, 1}, {0, 0, MAX}, {MIN, 0, 1}, {0, MIN, 1}, {0, 0, MIN}, {MAX, MAX, MAX}, {MIN, MIN, MIN},
      {1, 1, MAX}, {MAX, 0, MIN}, {MIN, 0, MAX}, {5, 3, -1}, {-1, -1, 0}, {5, 3, MIN}};
    DustInOrder x = withKinds(1);
    Due.row(x, 0, 0, 1, 2, 3, 4, 5);
    Due.row(x, 1, 0, 6, 7, 8);
    for (int[] p : places) {
      String name = "43: " + p[0] + " " + p[1] + " " + p[2];
      Due.due(name, x.shift(0, p[0], 1, p[1], p[2]), PLACE);
      Due.due(name + ", nothing there", x.shift(0, p[0], 2, p[1], p[2]), NOTHING);
      Due.due(name + ", nothing there", x.shift(2, p[0], 0, p[1], p[2]), NOTHING);
      Due.due(name + ", BAD", x.shift(6, p[0], 0, p[1], p[2]), BAD);
      Due.due(name + ", BAD", x.shift(2, p[0], -1, p[1], p[2]), BAD);
    }
    for (int k = 0; k < 3; k++) {
      Due.due("43: nothing came", x.element(1, k), 6 + k);
    }
    x.keep(3, 0);
    for (int[] p : places) {
      String name = "43: " + p[0] + " " + p[1] + " " + p[2];
      Due.due(name + ", a body", x.shift(3, p[0], 1, p[1], p[2]), KIND);
      Due.due(name + ", to a body", x.shift(1, p[0], 3, p[1], p[2]), KIND);
      Due.due(name + ", a body in itself", x.shift(3, p[0], 3, p[1], p[2]), KIND);
      Due.due(name + ", -11 is named ahead of -12", x.shift(3, p[0], 2, p[1], p[2]), NOTHING);
      Due.due(name + ", -11 is named ahead of -12", x.shift(2, p[0], 3, p[1], p[2]), NOTHING);
      Due.due(name + ", nothing in itself", x.shift(2, p[0], 2, p[1], p[2]), NOTHING);
    }
  }

  // "What a SHELF holds, taken for a BODY of KIND k (0 .. 7), or under it: its KIND."
  private static void taken() {
    // of each KIND the KINDS above it and itself (bits)
    int[] above = {1, 3, 5, 13, 19, 45, 65, 193};
    DustInOrder x = withKinds(8);
    for (int kind = 0; kind < 8; kind++) {
      x.keep(5, kind);
      for (int k = 0; k < 8; k++) {
        Due.due("44: " + kind + " for " + k, x.taken(5, k), (above[kind] >> k & 1) == 1 ? kind : KIND);
      }
      for (int k : Due.outside(0, 7)) {
        Due.due("44: " + kind + " for " + k, x.taken(5, k), BAD);
      }
    }
  }

  // "How many: 0 SILLS, 1 bytes on THE TAPE, 2 changes that may be UNDONE, 3 BODIES, 4 bodies that ran ... BAD."
  private static void counts() {
    DustInOrder x = new DustInOrder();
    for (int what = 0; what <= 4; what++) {
      Due.due("45: " + what, x.count(what), 0);
    }
    for (int what : Due.outside(0, 4)) {
      Due.due("45: " + what, x.count(what), BAD);
    }
    x.sill(0, 0);
    Due.due("45: one SILL", x.count(0), 1);
    x.feed(0);
    Due.due("45: one byte", x.count(1), 1);
    x.mend(0, 0, 1);
    Due.due("45: one change", x.count(2), 1);
    x.body(0);
    Due.due("45: one BODY", x.count(3), 1);
    x.act(0, 0, 0);
    Due.due("45: one ran", x.count(4), 1);
  }

  public static void main(String[] args) {
    fiftyBodies();
    byHand();
    wrapping();
    noSuchOnes();
    traces();
    keeping();
    rows();
    rowsAnew();
    lowestBits();
    refusals();
    shiftedInItself();
    shiftedToAnother();
    shiftRefused();
    taken();
    counts();
    Due.end();
  }
}
