/** The boundary cases of parts 3 and 4 (DRAWN) of 'Terms' (days read back) and of promises 18 to 27. */
public final class DaysEdges {
  private static final int BAD = Due.BAD, NOT = Due.NOT, KIND = Due.KIND;
  private static final int MAX = Due.MAX, MIN = Due.MIN;

  // "how many ways of n LOOKINGS (0 .. 9; each of 60: whom, how much; from a bare SILL)"
  private static void waysToBare() {
    DustInOrder x = Due.house(0, 0);
    long nothing = 1;
    for (int n = 0; n <= 9; n++) {
      Due.due("18: to bare by " + n, x.ways(0, n), nothing);
      nothing *= 6;
    }
    for (int n : Due.outside(0, 9)) {
      Due.due("18: " + n, x.ways(0, n), Due.BAD_LONG);
    }
    Due.law(x, "0");
    long all = 1;
    for (int n = 0; n <= 9; n++) {
      Due.due("18: all of 60 by " + n, x.ways(0, n), all);
      all *= 60;
    }
    Due.law(x, "1");
    for (int n = 0; n <= 9; n++) {
      Due.due("18: none lays nothing, " + n, x.ways(0, n), n == 0 ? 1 : 0);
    }
  }

  // each of 60: a LOOKING by MISS (60 to 65) is no other one
  private static void eachOfSixty() {
    DustInOrder x = Due.house(0, 0);
    x.look(65);
    Due.due("18: 55 alone", x.ways(0, 1), 1);
    Due.due("19: 55", x.first(0, 1, 0), 55);
    Due.law(x, "1");
    Due.due("18: nine grains too many", x.ways(0, 1), 0);
    x.sweep(0);
    x.look(59);
    Due.due("18: by each of ten", x.ways(0, 1), 10);
    Due.due("19: the first of ten", x.first(0, 1, 0), 50);
    x.sweep(0);
    x.look(0);
    Due.due("19: the very first", x.first(0, 1, 0), 0);
    // only the last of all sixty lays here
    Due.law(x, "w=5&n=9");
    x.sweep(0);
    x.look(59);
    Due.due("18: the last of sixty", x.ways(0, 1), 1);
    Due.due("19: the last of sixty", x.first(0, 1, 0), 59);
    Due.due("18: the last of sixty, and one that lays nothing", x.ways(0, 2), 2 * 59);
  }

  // nine LAYERS, 81 grains are the most that nine LOOKINGS give
  private static void mostByNine() {
    DustInOrder x = Due.house(0, 0);
    for (int n = 0; n <= 12; n++) {
      Due.due("20: " + n + " LAYERS", x.least(0), n <= 9 ? n : NOT);
      Due.due("18: " + n + " LAYERS by nine", x.ways(0, 9) > 0 ? 1 : 0, n <= 9 ? 1 : 0);
      Due.due("21: " + n + " LAYERS by nine", x.certain(0, 9), n == 0 || n > 9 ? 0 : n == 1 ? 1 : 3);
      Due.due("19: " + n + " LAYERS by nine", x.first(0, 9, 8), n == 0 ? 0 : n <= 9 ? 10 * ((n - 1) % 2) + 9 : NOT);
      if (n > 0 && n <= 9) {
        Due.due("18: one too few", x.ways(0, n - 1), 0);
        Due.due("18: just as many", x.ways(0, n), 1);
        Due.due("19: one too few", x.first(0, n - 1, 0), NOT);
        Due.due("21: one too few", x.certain(0, n - 1), 0);
      }
      x.look(10 * (n % 2) + 9);
    }
    for (int grains = 70; grains <= 99; grains++) {
      DustInOrder y = Due.grown(4, grains);
      int least = (grains + 8) / 9;
      Due.due("20: " + grains + " grains", y.least(0), least <= 9 ? least : NOT);
      Due.due("18: " + grains + " grains", y.ways(0, 9) > 0 ? 1 : 0, least <= 9 ? 1 : 0);
      // all by 9 but for what is missing, spread over nine
      if (grains >= 80 && grains <= 82) {
        Due.due("18: just " + grains, y.ways(0, 9), grains == 80 ? 9 : grains == 81 ? 1 : 0);
      }
    }
    // 12 grains come by two LOOKINGS in 7 ways; 40 and 41 take five each, one more than nine
    DustInOrder two = Due.grown(0, 12, 1, 12);
    Due.due("18: twice 12 by three", two.ways(0, 3), 0);
    Due.due("18: twice 12 by four", two.ways(0, 4), 7 * 7);
    Due.due("20: twice 12", two.least(0), 4);
    DustInOrder three = Due.grown(3, 12, 1, 27, 2, 12);
    Due.due("18: 12, 27, 12 by seven", three.ways(0, 7), 7 * 7);
    Due.due("20: 12, 27, 12", three.least(0), 7);
    Due.due("20: 36 and 45", Due.grown(4, 36, 0, 45).least(0), 9);
    Due.due("18: 36 and 45", Due.grown(4, 36, 0, 45).ways(0, 9), 1);
    Due.due("20: 40 and 41", Due.grown(4, 40, 0, 41).least(0), NOT);
    Due.due("18: 40 and 41", Due.grown(4, 40, 0, 41).ways(0, 9), 0);
  }

  // "give just what lies on a SILL now (pressed ones, too: as it goes)"
  private static void pressedOnes() {
    // 0 by 1 under 1 by 1, pressed: 0 by 2; what lies above is taken off again
    DustInOrder x = Due.house(0, 0);
    for (int looking : new int[] {1, 11, 21, 31, 21, 31, 21, 31, 21, 31, 21, 31, 21}) {
      x.look(looking);
    }
    Due.lies("18: pressed", x, 0, 0, 2, 2, 1, 3, 1, 2, 1, 3, 1, 2, 1, 3, 1, 2, 1, 3, 1, 2, 1, 3, 1, 2, 1);
    Due.due("18: twelve LAYERS", x.ways(0, 9), 0);
    x.blow(0, 11);
    Due.lies("18: the pressed one alone", x, 0, 0, 2);
    Due.due("18: by one", x.ways(0, 1), 1);
    // 0 by 2 with one of six that lay nothing ahead, one of six behind; or twice 0 by 1
    Due.due("18: by two", x.ways(0, 2), 13);
    Due.due("20: by one", x.least(0), 1);
    Due.due("21: 1 is not certain", x.certain(0, 2), 1);
    // two of the same one, one above the other, come by no nine LOOKINGS
    DustInOrder twins = Due.house(0, 0);
    for (int looking : new int[] {1, 11, 1, 31, 21, 31, 21, 31, 21, 31, 21, 31, 21}) {
      twins.look(looking);
    }
    twins.blow(0, 10);
    Due.lies("18: twins", twins, 0, 0, 2, 0, 1);
    for (int n = 0; n <= 9; n++) {
      Due.due("18: twins by " + n, twins.ways(0, n), 0);
      Due.due("21: twins by " + n, twins.certain(0, n), 0);
      Due.due("19: twins by " + n, twins.first(0, n, 0), NOT);
    }
    Due.due("20: twins", twins.least(0), NOT);
  }

  // from a bare SILL by the numbers and THE LAW of now, however it came
  private static void asItGoesNow() {
    DustInOrder x = Due.house(0, 0);
    x.look(9);
    x.mend(0, 1, 3);
    Due.due("18: draughty now", x.ways(0, 1), 0);
    Due.due("20: draughty now", x.least(0), 2);
    Due.due("18: lays nothing by 0 and 1", x.ways(0, 0) + x.ways(0, 1), 0);
    x.undo();
    Due.due("18: as before", x.ways(0, 1), 1);
    Due.law(x, "9-k*9");
    Due.due("18: the first lays 9", x.ways(0, 1), 10);
    Due.due("18: the second lays nothing", x.ways(0, 2), 600);
    Due.due("19: what lays nothing behind it, 0", x.first(0, 3, 0), 0);
    Due.due("19: what lays nothing behind it, 2", x.first(0, 3, 2), 0);
    DustInOrder y = Due.grown(2, 9);
    Due.law(y, "9-k*9");
    int[] behind = {20, 0, 0, 0};
    for (int k = 0; k < 4; k++) {
      Due.due("19: of 2, " + k, y.first(0, 4, k), behind[k]);
    }
    x.look(10);
    Due.lies("18: the second laid nothing", x, 0, 0, 9);
    Due.law(x, "s=3&9");
    Due.due("18: nothing by this season", x.ways(0, 9), 0);
    Due.due("20: nothing by this season", x.least(0), NOT);
    Due.law(x, "s=3?9;0");
    x.mend(0, 3, 3);
    Due.due("18: all by this season", x.ways(0, 1), 10);
  }

  // "THE FIRST of those ways: its k-th LOOKING (of like ones the first by numbers; NOT)"
  private static void theFirst() {
    DustInOrder x = Due.house(0, 0);
    for (int n = 0; n <= 9; n++) {
      for (int k = 0; k <= 10; k++) {
        Due.due("19: bare, " + k + " of " + n, x.first(0, n, k), k < n ? 0 : NOT);
      }
    }
    x.look(23);
    // what lays nothing goes ahead, then 2 by 1 as long as it may
    int[][] firsts = {{}, {23}, {0, 23}, {0, 0, 23}};
    for (int n = 0; n <= 3; n++) {
      for (int k = 0; k <= n; k++) {
        Due.due("19: " + k + " of " + n, x.first(0, n, k), k < n && n > 0 ? firsts[n][k] : NOT);
      }
    }
    Due.law(x, "n>0?n;1");
    int[][] ones = {{}, {23}, {20, 22}, {20, 20, 20}};
    for (int n = 1; n <= 3; n++) {
      for (int k = 0; k < n; k++) {
        Due.due("19: none lays nothing, " + k + " of " + n, x.first(0, n, k), ones[n][k]);
      }
    }
    Due.due("19: none by four", x.first(0, 4, 0), NOT);
    for (int k : new int[] {9, 10, 60, 256, 65536, MAX}) {
      Due.due("19: k " + k, x.first(0, 3, k), NOT);
    }
    for (int k : new int[] {-1, -2, -256, MIN}) {
      Due.due("19: k " + k, x.first(0, 3, k), BAD);
      Due.due("19: BAD is named ahead of NOT, " + k, x.first(0, 4, k), BAD);
    }
    Due.due("19: BAD is named ahead of NOT", x.first(0, 10, 10), BAD);
  }

  // "the least n by which there is one (0 .. 9; NOT)"
  private static void fewest() {
    DustInOrder x = Due.house(0, 0);
    Due.due("20: bare", x.least(0), 0);
    // by ones alone, so that each grain takes a LOOKING
    Due.law(x, "1");
    for (int grains = 1; grains <= 11; grains++) {
      x.look(30);
      Due.due("20: " + grains, x.least(0), grains <= 9 ? grains : NOT);
    }
  }

  // "which PEOPLE (bits) are looked for (by how much ever) in all those ways of n; 0 without any"; "LOOKINGS that
  // laid nothing, too"
  private static void certainOnes() {
    DustInOrder x = Due.house(0, 0);
    for (int n = 0; n <= 9; n++) {
      Due.due("21: bare, nobody by " + n, x.certain(0, n), 0);
    }
    // 5 alone lays nothing: whoever looks at a bare SILL looked for him
    Due.law(x, "w<5");
    Due.due("21: bare, by none", x.certain(0, 0), 0);
    for (int n = 1; n <= 9; n++) {
      Due.due("21: bare, by " + n, x.certain(0, n), 32);
    }
    for (int one = 0; one <= 5; one++) {
      Due.law(x, "!(w=" + one + ")");
      Due.due("21: bare, " + one + " alone lays nothing", x.certain(0, 3), 1 << one);
    }
    x.look(0);
    Due.due("21: without any", x.certain(0, 0), 0);
    Due.due("21: 0 by one", x.certain(0, 1), 1);
    Due.due("21: 0 and 5 by two", x.certain(0, 2), 33);
    // all six, each laid by one
    Due.law(x, "n=0");
    x.sweep(0);
    for (int one = 0; one <= 5; one++) {
      x.look(10 * one);
    }
    Due.due("21: none by five", x.certain(0, 5), 0);
    Due.due("21: all six by six", x.certain(0, 6), 63);
    Due.due("21: all six by nine", x.certain(0, 9), 63);
    for (int n : Due.outside(0, 9)) {
      Due.due("21: " + n, x.certain(0, n), BAD);
    }
  }

  // "the longest order of WHOM that two SILLS' LAYERS (or one's own) have both"; "how many (k -1), the k-th WHOM (NOT)"
  private static void alike() {
    DustInOrder x = Due.house(0, 0, 1, 0, 2, 0);
    Due.due("22: both bare", x.alike(1, -1), 0);
    Due.due("22: both bare, 0", x.alike(1, 0), NOT);
    Due.due("22: one's own, bare", x.alike(22, -1), 0);
    Due.law(x, "h=1");
    for (int k = 0; k < 12; k++) {
      x.look(10 * (k * 5 % 6));
      Due.due("22: one's own", x.alike(11, -1), k + 1);
      Due.due("22: one's own, last", x.alike(11, k), k * 5 % 6);
      Due.due("22: one's own, behind it", x.alike(11, k + 1), NOT);
    }
    for (int k = 0; k < 12; k++) {
      Due.due("22: one's own, " + k, x.alike(11, k), k * 5 % 6);
    }
    Due.due("22: bare and twelve", x.alike(1, -1), 0);
    Due.due("22: twelve and bare", x.alike(10, -1), 0);
    Due.due("22: twelve and bare, 0", x.alike(10, 0), NOT);
    Due.law(x, "h=0");
    x.look(50);
    Due.due("22: one and twelve", x.alike(1, -1), 1);
    Due.due("22: one and twelve, 0", x.alike(1, 0), 5);
    Due.due("22: one and twelve, 1", x.alike(1, 1), NOT);
    for (int k : new int[] {12, 13, 256, 65536, MAX}) {
      Due.due("22: k " + k, x.alike(11, k), NOT);
    }
    for (int k : new int[] {-2, -3, -256, MIN}) {
      Due.due("22: k " + k, x.alike(11, k), BAD);
    }
    Due.due("22: BAD is named ahead of NOT", x.alike(31, 12), BAD);
  }

  private static DustInOrder twoOrders(int[] first, int[] second) {
    DustInOrder x = Due.house(0, 0, 1, 0);
    Due.law(x, "h=0");
    for (int whom : first) {
      x.look(10 * whom);
    }
    Due.law(x, "h=1");
    for (int whom : second) {
      x.look(10 * whom);
    }
    return x;
  }

  // "(some may be left out on either)"; "of like ones the first by numbers"
  private static void alikeLikeOnes() {
    int[][][] cases = {
      {{0, 1, 0}, {0}, {0}}, {{0, 1, 0, 1}, {1}, {1}}, {{0, 1}, {1, 0}, {0}}, {{1, 0}, {0, 1}, {0}}, {{0, 1}, {2, 3}, {}},
      {{5, 4, 3}, {3, 4, 5}, {3}},
      {{0, 1, 0, 1}, {1, 0, 1, 0}, {0, 1, 0}}, {{2, 0, 2}, {2, 1, 2}, {2, 2}}, {{3, 1, 2, 0}, {1, 3, 0, 2}, {1, 0}},
      {{0, 1, 2, 3, 4, 5}, {0, 2, 4, 1, 3, 5}, {0, 1, 3, 5}}, {{5, 0, 1}, {0, 1, 5}, {0, 1}}, {{1, 2, 0}, {0, 1, 2}, {1, 2}},
      {{0, 1, 0, 1, 0, 1, 0, 1, 0, 1, 0, 1}, {1, 0, 1, 0, 1, 0, 1, 0, 1, 0, 1, 0}, {0, 1, 0, 1, 0, 1, 0, 1, 0, 1, 0}}};
    for (int[][] c : cases) {
      DustInOrder x = twoOrders(c[0], c[1]);
      String name = "22: " + java.util.Arrays.toString(c[0]) + java.util.Arrays.toString(c[1]);
      for (int ab : new int[] {1, 10}) {
        Due.due(name, x.alike(ab, -1), c[2].length);
        for (int k = 0; k <= c[2].length; k++) {
          Due.due(name + " " + k, x.alike(ab, k), k < c[2].length ? c[2][k] : NOT);
        }
      }
    }
  }

  // "whether two SILLS tell the same order, LAYER by LAYER": "1, 0"
  private static void same() {
    int[][][] cases = {
      {{}, {}, {1}}, {{}, {0}, {0}}, {{0}, {0}, {1}}, {{0}, {1}, {0}}, {{0, 1}, {0}, {0}}, {{0, 1}, {0, 2}, {0}},
      {{0, 1}, {2, 1}, {0}}, {{0, 1, 0, 1, 0, 1, 0, 1, 0, 1, 0, 1}, {0, 1, 0, 1, 0, 1, 0, 1, 0, 1, 0, 1}, {1}},
      {{0, 1, 0, 1, 0, 1, 0, 1, 0, 1, 0, 1}, {0, 1, 0, 1, 0, 1, 0, 1, 0, 1, 0, 2}, {0}},
      {{0, 1, 0, 1, 0, 1, 0, 1, 0, 1, 0, 1}, {0, 1, 0, 1, 0, 1, 0, 1, 0, 1, 0}, {0}}};
    for (int[][] c : cases) {
      DustInOrder x = twoOrders(c[0], c[1]);
      String name = "23: " + java.util.Arrays.toString(c[0]) + java.util.Arrays.toString(c[1]);
      Due.due(name, x.same(1), c[2][0]);
      Due.due(name + ", the other way", x.same(10), c[2][0]);
      Due.due(name + ", itself", x.same(0) + x.same(11), 2);
    }
    // a LAYER that is swept off is told no more, though it was the same
    DustInOrder x = twoOrders(new int[] {0, 1}, new int[] {0, 1});
    x.blow(1, 1);
    Due.due("23: one is gone", x.same(1), 0);
    x.blow(0, 1);
    Due.due("23: gone from both", x.same(1), 1);
  }

  private static void part(String name, DustInOrder x, int one, long above, long below) {
    Due.due(name + ", above", x.likely(one, 0), above);
    Due.due(name + ", below", x.likely(one, 1), below);
  }

  // "each THICK times (13 less how many LAYERS lie above it), over that of all: a fraction in lowest terms (nothing
  // lies: 0 by 1)"
  private static void likelyOnes() {
    DustInOrder x = Due.house(0, 0);
    for (int one = 0; one <= 5; one++) {
      part("24: nothing lies", x, one, 0, 1);
    }
    Due.due("25: nothing lies", x.expected(), NOT);
    x.look(51);
    part("24: he alone", x, 5, 1, 1);
    part("24: another", x, 0, 0, 1);
    Due.due("25: he alone", x.expected(), 5);
    // twelve LAYERS of 1: 2 for the lowest, 13 for the uppermost
    DustInOrder full = Due.house(0, 0);
    for (int k = 0; k < 12; k++) {
      full.look(10 * (k == 0 ? 4 : k == 11 ? 5 : k % 2) + 1);
    }
    part("24: the lowest of twelve", full, 4, 1, 45);
    part("24: the uppermost of twelve", full, 5, 13, 90);
    // 12 LAYERS of 99 on each of five SILLS: the most that can lie
    DustInOrder most = Due.house(0, 0, 0, 0, 0, 0, 0, 0, 0, 0);
    for (int k = 0; k < 12; k++) {
      Due.grow(most, k % 2, 99);
    }
    part("24: most, 0", most, 0, 7, 15);
    part("24: most, 1", most, 1, 8, 15);
    part("24: most, another", most, 2, 0, 1);
    Due.due("25: most", most.expected(), 1);
    most.blow(0, 99);
    most.sweep(4);
    // of 0 on SILL 0 now 3, 5 .. 13, of 1 4, 6 .. 12; on three others as before: 174 of 358
    part("24: one LAYER off", most, 0, 87, 179);
    for (int bad : new int[] {-1, 2, MAX, MIN}) {
      Due.due("24: part " + bad, most.likely(0, bad), Due.BAD_LONG);
    }
    for (int bad : Due.outside(0, 5)) {
      Due.due("24: one " + bad, most.likely(bad, 0), Due.BAD_LONG);
      Due.due("24: one " + bad, most.likely(bad, 1), Due.BAD_LONG);
    }
  }

  // "EXPECTED: the likeliest (of like ones the least; NOT)"
  private static void expectedOnes() {
    // 12 times 13 for the lower one, 13 times 12 for the upper one
    DustInOrder like = Due.grown(5, 13, 2, 12);
    part("24: like ones", like, 2, 1, 2);
    Due.due("25: like ones, the least", like.expected(), 2);
    Due.due("25: like ones, the least lies below", Due.grown(2, 13, 5, 12).expected(), 2);
    Due.due("25: one grain more above", Due.grown(2, 13, 5, 13).expected(), 5);
    Due.due("25: one grain more below", Due.grown(5, 14, 2, 12).expected(), 5);
    for (int one = 0; one <= 5; one++) {
      Due.due("25: he alone", Due.grown(one, 1).expected(), one);
      Due.due("25: he above another", Due.grown(5 - one, 1, one, 1).expected(), one);
    }
    DustInOrder all = Due.house(0, 0, 1, 0, 2, 0, 3, 0, 4, 0);
    Due.law(all, "w=h+1");
    for (int one = 5; one >= 1; one--) {
      all.look(10 * one);
      Due.due("25: the least of those that lie", all.expected(), one);
    }
    for (int sill = 0; sill < 5; sill++) {
      all.sweep(sill);
      Due.due("25: the least of the others", all.expected(), sill < 4 ? sill + 2 : NOT);
    }
  }

  // "WHOM of a SILL's LAYERS, from below: the first that is not so (more, fewer, too); NOT."
  private static void judged() {
    int[] whom = {5, 0, 1, 2, 3, 4, 5, 0, 1, 2, 3, 4};
    for (int layers = 0; layers <= 12; layers++) {
      DustInOrder x = Due.house(0, 0);
      for (int k = 0; k < layers; k++) {
        x.look(10 * whom[k] + 1);
      }
      for (int told : new int[] {0, 1, 11, 12, 13, 60}) {
        x.row(0, 0, told);
        for (int k = 0; k < told; k++) {
          x.put(0, k, whom[k % 12]);
        }
        Due.due("26: " + told + " told of " + layers, x.judge(0, 0), told == layers ? NOT : Math.min(told, layers));
      }
      x.row(0, 0, layers);
      for (int k = 0; k < layers; k++) {
        x.put(0, k, whom[k]);
      }
      for (int k = 0; k < layers; k++) {
        for (int other : new int[] {whom[k] == 5 ? 4 : 5, -1, 6, 127, -128}) {
          x.put(0, k, other);
          Due.due("26: " + k + " of " + layers, x.judge(0, 0), k);
        }
        x.put(0, k, 256 + whom[k]);
        Due.due("26: what is put in keeps its lowest bits", x.judge(0, 0), NOT);
      }
    }
    // of several the first
    DustInOrder x = Due.grown(1, 1, 2, 1, 3, 1);
    Due.row(x, 0, 0, 1, 0, 0, 0, 0);
    Due.due("26: the first of several", x.judge(0, 0), 1);
    Due.row(x, 0, 0, 0);
    Due.due("26: not so goes ahead of fewer", x.judge(0, 0), 0);
    Due.due("26: nothing there", x.judge(1, 0), Due.NOTHING);
    x.row(1, 1, 3);
    Due.due("26: shorts", x.judge(1, 0), KIND);
  }

  /** DRAWN by other means: longs that are cut to 32 bits, and a house where it is done. */
  private static int drawn(int seed, int years, int lookings, int draught, int whom, int... layers) {
    long z = seed & 0xffffffffL;
    int all = 0;
    for (int year = 0; year < years; year++) {
      DustInOrder y = Due.grown(layers);
      y.mend(0, 1, draught);
      for (int i = 0; i < lookings; i++) {
        z = (z * 1103515245L + 12345L) & 0xffffffffL;
        y.look((int) ((z / 256) % 6 * 10 + (z / 65536) % 10));
      }
      int top = y.layer(0, y.of(0, 4) - 1, 0);
      all += whom == -1 ? y.of(0, 4) : top == whom ? 1 : 0;
    }
    return all;
  }

  // "n years (1 .. 30) of m LOOKINGS (1 .. 40) from now by a SEED"; "an int"; ">>>"
  private static void drawnYears() {
    int[] seeds = {0, 1, -1, MAX, MIN, MAX - 1, MIN + 1, 12345, -12345, 1103515245, 0x7fff0000, 0xffff00ff};
    int[][] nms = {{1, 1}, {1, 40}, {30, 1}, {30, 40}, {29, 39}, {2, 2}};
    for (int seed : seeds) {
      for (int[] nm : nms) {
        for (int whom = -1; whom <= 5; whom++) {
          DustInOrder x = Due.grown(2, 3, 4, 9, 0, 1);
          x.mend(0, 1, 5);
          Due.due("27: " + seed + ", " + nm[0] + " of " + nm[1] + ", " + whom, x.drawn(seed, 100 * nm[0] + nm[1], 0, whom),
              drawn(seed, nm[0], nm[1], 5, whom, 2, 3, 4, 9, 0, 1));
          Due.lies("27: in thought", x, 0, 2, 3, 4, 9, 0, 1);
        }
      }
    }
  }

  // "how many LAYERS lie on a SILL at the ends ...; how often one is uppermost at an end (WHOM told)"
  private static void drawnEnds() {
    DustInOrder x = Due.house(0, 0);
    Due.law(x, "0");
    for (int whom = 0; whom <= 5; whom++) {
      Due.due("27: nobody lies uppermost", x.drawn(9, 3040, 0, whom), 0);
    }
    Due.due("27: no LAYERS", x.drawn(9, 3040, 0, -1), 0);
    Due.law(x, "1");
    x.look(30);
    Due.law(x, "0");
    Due.due("27: as it lies now", x.drawn(9, 3040, 0, -1), 30);
    Due.due("27: always uppermost", x.drawn(9, 3040, 0, 3), 30);
    Due.due("27: never uppermost", x.drawn(9, 3040, 0, 2), 0);
    Due.law(x, "9");
    Due.due("27: 12 at most", x.drawn(9, 3040, 0, -1) <= 360 ? 1 : 0, 1);
    int all = 0;
    for (int whom = 0; whom <= 5; whom++) {
      all += x.drawn(9, 3040, 0, whom);
    }
    Due.due("27: somebody at each end", all, 30);
    for (int whom : Due.outside(-1, 5)) {
      Due.due("27: whom " + whom, x.drawn(9, 101, 0, whom), BAD);
    }
    for (int nm : new int[] {100, 141, 199, 3000, 3041, 3100, 3101, 3140, 1, 40, 0, -101, -1, MAX, MIN}) {
      Due.due("27: nm " + nm, x.drawn(9, nm, 0, -1), BAD);
    }
  }

  public static void main(String[] args) {
    waysToBare();
    eachOfSixty();
    mostByNine();
    pressedOnes();
    asItGoesNow();
    theFirst();
    fewest();
    certainOnes();
    alike();
    alikeLikeOnes();
    same();
    likelyOnes();
    expectedOnes();
    judged();
    drawnYears();
    drawnEnds();
    Due.end();
  }
}
