/** The boundary cases of part 2 of 'Terms' (days in thought) and of promises 10 to 17. */
public final class ThoughtEdges {
  private static final int BAD = Due.BAD, NOT = Due.NOT, NOTHING = Due.NOTHING, KIND = Due.KIND;
  private static final int MAX = Due.MAX, MIN = Due.MIN;

  // "behind the first n LOOKINGS of a BOOK (all, if there are fewer)"; "n 0 .. 40"
  private static void firstOfABook() {
    long[] forty = new long[40];
    for (int i = 0; i < 40; i++) {
      forty[i] = 11;
    }
    for (int size : new int[] {0, 1, 2, 20, 39, 40}) {
      DustInOrder x = Due.grown(0, 3);
      Due.book(x, java.util.Arrays.copyOf(forty, size));
      for (int n : new int[] {0, 1, 2, 19, 20, 21, 38, 39, 40}) {
        int all = Math.min(n, size);
        String name = "10: first " + n + " of " + size;
        Due.due(name + ": THICK", x.later(0, n, 0, 1), 3 + all);
        Due.due(name + ": LAYERS", x.later(0, n, 0, 0), all == 0 ? 1 : 2);
        Due.due(name + ": BARE", x.later(0, n, 0, 4), 0);
        Due.due("11: first " + n + " of " + size, x.laid(0, n, 0, 11), all == 0 ? NOT : all);
      }
      Due.due("10: -1", x.later(0, -1, 0, 0), BAD);
      Due.due("10: 41", x.later(0, 41, 0, 0), BAD);
      Due.due("11: -1", x.laid(0, -1, 0, 0), BAD);
      Due.due("11: 41", x.laid(0, 41, 0, 0), BAD);
      Due.lies("10: nothing is laid", x, 0, 0, 3);
    }
  }

  // "40 at most": the 41st of a ROW is none of the BOOK
  private static void fortyAtMost() {
    for (int size : new int[] {40, 41, 60}) {
      DustInOrder x = Due.house(0, 0);
      x.row(0, 0, size);
      for (int i = 0; i < size; i++) {
        x.put(0, i, i < 39 ? 0 : i == 39 ? 17 : 29);
      }
      Due.due("10: 40 of " + size, x.later(0, 40, 0, 1), 7);
      Due.due("10: 40 of " + size + ", BARE", x.later(0, 40, 0, 4), 39);
      Due.due("10: 39 of " + size, x.later(0, 39, 0, 1), 0);
      Due.due("11: 40 of " + size, x.laid(0, 40, 0, 2), 1);
    }
  }

  // "0 .. 59; 60 to 65: of PEOPLE 0 to 5 by MISS; ... it ends with what is none of these"
  private static void whatIsNone() {
    for (int v = -128; v <= 127; v++) {
      DustInOrder x = Due.house(0, 0);
      for (int one = 0; one <= 5; one++) {
        x.mend(one, 2, one + 3);
      }
      Due.book(x, 1, v, 12);
      boolean isOne = v >= 0 && v <= 65;
      int whom = v >= 60 ? v - 60 : v / 10;
      int much = v >= 60 ? v - 57 : v % 10;
      int all = isOne ? 3 + much : 1;
      Due.due("10: " + v, x.later(0, 40, 0, 1), all);
      Due.due("10: " + v + ", of whom", x.later(0, 2, 0, 2), isOne && much > 0 ? 1 | 1 << whom : 1);
      Due.due("10: " + v + ", BARE", x.later(0, 40, 0, 4), isOne && much == 0 ? 1 : 0);
      Due.due("11: " + v, x.laid(0, 40, 0, 2), isOne ? 1 : 0);
    }
    // at the first place, too, and behind the first n nothing is looked at
    DustInOrder x = Due.grown(4, 4);
    Due.book(x, 66, 12);
    Due.due("10: none at once", x.later(0, 40, 0, 1), 4);
    Due.book(x, 12, 66, 12);
    Due.due("10: none behind the first", x.later(0, 1, 0, 1), 6);
    Due.due("10: none behind the first, all", x.later(0, 3, 0, 1), 6);
  }

  // "(a BOOK on a SHELF; BAD, -11, -12 (no ROW of bytes); n 0 .. 40)"
  private static void booksThatAreNone() {
    DustInOrder x = Due.grown(0, 3);
    x.body(0);
    for (int what = 0; what <= 4; what++) {
      Due.due("10: nothing there", x.later(5, 0, 0, what), NOTHING);
    }
    for (int kw : new int[] {0, 1, 2, 10, 1000}) {
      Due.due("11: nothing there", x.laid(5, 40, 0, kw), NOTHING);
    }
    for (int sort = 1; sort <= 4; sort++) {
      x.row(5, sort, sort % 2);
      Due.due("10: sort " + sort, x.later(5, 0, 0, 0), KIND);
      Due.due("11: sort " + sort, x.laid(5, 0, 0, 0), KIND);
      Due.due("26: sort " + sort, x.judge(5, 0), KIND);
      Due.due("10: BAD is named ahead of -12", x.later(5, 41, 0, 0), BAD);
      Due.due("11: BAD is named ahead of -12", x.laid(5, 0, 0, 3), BAD);
      Due.due("26: BAD is named ahead of -12", x.judge(5, 1), BAD);
    }
    x.keep(5, 0);
    Due.due("10: a body", x.later(5, 0, 0, 0), KIND);
    Due.due("11: a body", x.laid(5, 0, 0, 0), KIND);
    Due.due("26: a body", x.judge(5, 0), KIND);
    x.keep(5, -1);
    Due.due("10: nothing any more", x.later(5, 0, 0, 0), NOTHING);
    Due.due("26: nothing any more", x.judge(5, 0), NOTHING);
    Due.due("10: BAD is named ahead of -11", x.later(5, 0, 0, 5), BAD);
    Due.due("11: BAD is named ahead of -11", x.laid(5, 0, 1, 0), BAD);
    Due.due("26: BAD is named ahead of -11", x.judge(5, -1), BAD);
    x.row(5, 0, 0);
    Due.due("10: a row of none", x.later(5, 40, 0, 1), 3);
    Due.due("11: a row of none", x.laid(5, 40, 0, 1), 3);
  }

  // "how many LAYERS; all THICK together; ... Who is READ (bits); ... of whom most lies (NOT: nothing). BARE"
  private static void nothingLies() {
    DustInOrder x = Due.house(0, 9);
    Due.book(x, 3, 12, 21, 30);
    int[] want = {0, 0, 0, NOT, 0};
    for (int n = 0; n <= 4; n++) {
      want[4] = n;
      for (int what = 0; what <= 4; what++) {
        Due.due("10: nothing lies, " + what + " behind " + n, x.later(0, n, 0, what), want[what]);
      }
      for (int what = 0; what <= 2; what++) {
        Due.due("11: nothing lies, " + what + " behind " + n, x.laid(0, n, 0, what), NOT);
      }
    }
  }

  // all of 12 LAYERS, all six PEOPLE; a LOOKING behind a full SILL presses in thought as in deed
  private static void mostLies() {
    DustInOrder x = Due.grown(0, 99, 1, 99, 2, 99, 3, 99, 4, 99, 5, 99, 0, 99, 1, 99, 2, 99, 3, 99, 4, 99, 5, 98);
    Due.book(x, 59, 1, 1, 12);
    int[][] want = {{12, 1187, 63, 0, 0}, {12, 1188, 63, 0, 0}, {12, 1090, 63, 0, 0}, {12, 1091, 63, 0, 0},
      {12, 994, 63, 0, 0}};
    for (int n = 0; n <= 4; n++) {
      for (int what = 0; what <= 4; what++) {
        Due.due("10: full, " + what + " behind " + n, x.later(0, n, 0, what), want[n][what]);
      }
    }
    Due.due("11: lowest", x.laid(0, 0, 0, 0), 0);
    Due.due("11: uppermost", x.laid(0, 0, 0, 110), 5);
    Due.due("11: uppermost, THICK", x.laid(0, 0, 0, 111), 98);
    Due.due("11: uppermost, 99 at most", x.laid(0, 1, 0, 111), 99);
    Due.due("11: a thirteenth", x.laid(0, 4, 0, 120), NOT);
    Due.due("11: a thirteenth, THICK", x.laid(0, 4, 0, 121), NOT);
    Due.due("11: pressed", x.laid(0, 2, 0, 10), 2);
    Due.due("11: uppermost then", x.laid(0, 2, 0, 110), 0);
    Due.due("11: THICK of it then", x.laid(0, 3, 0, 111), 2);
    for (int k = 0; k < 6; k++) {
      Due.due("11: last " + k, x.laid(0, 0, 0, 10 * k + 2), 5 - k);
    }
    Due.due("11: no seventh", x.laid(0, 0, 0, 62), NOT);
  }

  // "WHOM, THICK of the k-th LAYER (NOT)"; "the k-th of unlike ones from above; NOT"
  private static void kthOfThem() {
    DustInOrder x = Due.grown(2, 4, 3, 5, 2, 6);
    x.row(0, 0, 0);
    int[][] want = {{2, 4, 2}, {3, 5, 3}, {2, 6, NOT}, {NOT, NOT, NOT}, {NOT, NOT, NOT}};
    for (int k = 0; k < 5; k++) {
      for (int what = 0; what <= 2; what++) {
        Due.due("11: " + what + " of " + k, x.laid(0, 0, 0, 10 * k + what), want[k][what]);
      }
    }
    for (int kw : new int[] {110, 120, 130, 600, 2560, 655360, 2147483640}) {
      for (int what = 0; what <= 2; what++) {
        Due.due("11: far " + what + " of " + kw / 10, x.laid(0, 0, 0, kw + what), NOT);
      }
    }
    for (int kw : new int[] {3, 4, 9, 13, 19, 2147483643, MAX, -1, -10, -8, -9, MIN, MIN + 8}) {
      Due.due("11: kw " + kw, x.laid(0, 0, 0, kw), BAD);
    }
  }

  // "of whom most lies (of like ones the least; NOT: nothing)"
  private static void ofWhomMost() {
    int[][] books = {{5, 15}, {15, 5}, {5, 16}, {55, 45, 35, 25, 15, 5}, {55, 45, 36}, {13, 25, 13}, {13, 25, 12}, {13, 26, 13},
      {51}, {1}};
    int[] want = {0, 0, 1, 0, 3, 1, 1, 1, 5, 0};
    for (int i = 0; i < books.length; i++) {
      DustInOrder x = Due.house(0, 0);
      Due.book(x, java.util.Arrays.stream(books[i]).asLongStream().toArray());
      Due.due("10: most of " + java.util.Arrays.toString(books[i]), x.later(0, 40, 0, 3), want[i]);
    }
    // his LAYERS together, not the one that is THICKEST; of 1 one grain fewer than of 2
    DustInOrder x = Due.house(0, 0);
    Due.book(x, 13, 26, 12);
    Due.due("10: one fewer", x.later(0, 3, 0, 3), 2);
  }

  // "BARE: how many LOOKINGS lay nothing there", "BARE: of the first n"
  private static void bareOnes() {
    DustInOrder x = Due.house(0, 6, 0, 9);
    Due.book(x, 2, 3, 12, 13, 14, 20);
    int[] first = {0, 1, 1, 2, 2, 2, 3};
    int[] second = {0, 1, 2, 3, 4, 4, 5};
    for (int n = 0; n <= 6; n++) {
      Due.due("10: BARE of " + n, x.later(0, n, 0, 4), first[n]);
      Due.due("10: BARE of " + n + ", draughtier", x.later(0, n, 1, 4), second[n]);
    }
    // THE LAW is asked with as many LAYERS as lie there then
    Due.law(x, "k<2");
    Due.due("10: BARE by LAYERS", x.later(0, 6, 0, 4), 3);
    Due.law(x, "0");
    Due.due("10: all BARE", x.later(0, 40, 0, 4), 6);
  }

  // "lays so much on a SILL as THE LAW gives: nothing, if that is 0": what is lost above 99 is not BARE
  private static void fullOnesAreNotBare() {
    DustInOrder x = Due.grown(2, 99);
    Due.book(x, 29, 21, 20, 11);
    int[] want = {0, 0, 0, 1, 1};
    for (int n = 0; n <= 4; n++) {
      Due.due("10: 99 lie, BARE of " + n, x.later(0, n, 0, 4), want[n]);
      Due.due("10: 99 lie, THICK behind " + n, x.later(0, n, 0, 1), n < 4 ? 99 : 100);
    }
    Due.due("9: so much as THE LAW gives", x.lays(0, 29), 9);
  }

  // "BREATH of v (0 .. 99): so much is taken from above: WHOM is uppermost then (NOT); how many LAYERS are left"
  private static void breaths() {
    DustInOrder x = Due.grown(5, 1, 0, 10, 1, 88);
    int[][] want = {{0, 1, 3}, {1, 1, 3}, {87, 1, 3}, {88, 0, 2}, {89, 0, 2}, {97, 0, 2}, {98, 5, 1}, {99, NOT, 0}};
    for (int[] w : want) {
      Due.due("12: uppermost behind " + w[0], x.breath(0, w[0], 0), w[1]);
      Due.due("12: LAYERS behind " + w[0], x.breath(0, w[0], 1), w[2]);
    }
    Due.lies("12: in thought", x, 0, 5, 1, 0, 10, 1, 88);
    Due.due("12: -1", x.breath(0, -1, 1), BAD);
    Due.due("12: 100", x.breath(0, 100, 1), BAD);
    // a hundred lie: 99 leave one
    x.look(11);
    Due.due("12: one grain is left", x.breath(0, 99, 0), 5);
    Due.due("12: one LAYER is left", x.breath(0, 99, 1), 1);
    // 99 take twelve LAYERS, if they are thin
    DustInOrder thin = Due.house(0, 0);
    for (int k = 0; k < 12; k++) {
      thin.look(10 * (k % 6) + 1);
    }
    for (int v = 0; v <= 12; v++) {
      Due.due("12: thin ones", thin.breath(0, v, 1), 12 - v);
    }
    Due.due("12: more than lies", thin.breath(0, 99, 1), 0);
    DustInOrder bare = Due.house(0, 0);
    for (int v : new int[] {0, 1, 99}) {
      Due.due("12: bare", bare.breath(0, v, 0), NOT);
      Due.due("12: bare", bare.breath(0, v, 1), 0);
    }
  }

  // "the least breath (however great) by which a told one is not READ any more (0: he is not)"; "THICK of his
  // lowest LAYER and of all above it"
  private static void clearing() {
    DustInOrder x = Due.house(0, 0);
    for (int one = 0; one <= 5; one++) {
      Due.due("13: bare", x.clear(0, one), 0);
    }
    Due.grow(x, 3, 1);
    Due.due("13: one grain", x.clear(0, 3), 1);
    Due.grow(x, 5, 98);
    Due.due("13: 99", x.clear(0, 3), 99);
    Due.grow(x, 5, 1);
    Due.due("13: above 99", x.clear(0, 3), 100);
    Due.due("13: uppermost", x.clear(0, 5), 99);
    Due.due("13: not read", x.clear(0, 4), 0);
    DustInOrder full = Due.house(0, 0);
    for (int k = 0; k < 12; k++) {
      Due.grow(full, k % 6, 99);
    }
    for (int one = 0; one <= 5; one++) {
      Due.due("13: however great", full.clear(0, one), 99 * (12 - one));
    }
    // one grain less leaves him READ, just so much does not
    for (int one = 0; one <= 2; one++) {
      DustInOrder y = Due.grown(0, 7, 1, 30, 0, 4, 2, 9);
      int v = y.clear(0, one);
      y.blow(0, v - 1);
      Due.due("13: READ still", y.tellsOf(one), 1);
      y.blow(0, 1);
      Due.due("13: READ no more", y.tellsOf(one), 0);
    }
  }

  // "the least number of LOOKINGS for one (by how much: n), 0 .. 60, behind which most of all lies of him; NOT"
  private static void touching() {
    // of 0 there lie 58 to 61; of 1 more must lie
    int[] wants = {59, 60, NOT, NOT};
    for (int i = 0; i < 4; i++) {
      DustInOrder x = Due.grown(0, 58 + i);
      Due.due("14: above " + (58 + i), x.touch(0, 1, 1), wants[i]);
      Due.due("14: most is his already", x.touch(0, 0, 1), 0);
      Due.due("14: by nothing at all", x.touch(0, 0, 0), 0);
      Due.due("14: another by nothing", x.touch(0, 1, 0), NOT);
      Due.lies("14: in thought", x, 0, 0, 58 + i);
    }
    // of 1 there lie 59 to 61; of 0 so many are enough, as of like ones the least counts
    int[] likeWants = {59, 60, NOT};
    for (int i = 0; i < 3; i++) {
      Due.due("14: as many as " + (59 + i), Due.grown(1, 59 + i).touch(0, 0, 1), likeWants[i]);
    }
    DustInOrder bare = Due.house(0, 9);
    Due.due("14: bare", bare.touch(0, 5, 9), 1);
    Due.due("14: bare, all is lost by draught", bare.touch(0, 5, 3), NOT);
    Due.due("14: bare, just not", bare.touch(0, 5, 4), 1);
    Due.due("14: -1", bare.touch(0, 5, -1), BAD);
    Due.due("14: 10", bare.touch(0, 5, 10), BAD);
    Due.due("14: BAD is named ahead of NOT", bare.touch(0, 6, 0), BAD);
    // his one LAYER has 99 at most
    Due.due("14: 99 against 98", Due.grown(0, 98).touch(0, 1, 9), 11);
    Due.due("14: 99 against 99, not the least", Due.grown(0, 99).touch(0, 1, 9), NOT);
    Due.due("14: 99 against 99, the least", Due.grown(1, 99).touch(0, 0, 9), 11);
    Due.due("14: 99 against 100", Due.grown(1, 99, 2, 1, 1, 1).touch(0, 0, 9), NOT);
    // the first of them presses: 0 and 1 become one of 0, and of 1 nothing more lies there
    DustInOrder full = Due.grown(0, 1, 1, 20, 2, 1, 3, 1, 2, 1, 3, 1, 2, 1, 3, 1, 2, 1, 3, 1, 2, 1, 3, 1);
    Due.due("14: twelve", full.of(0, 4), 12);
    Due.due("14: of 0 most lies by pressing", full.touch(0, 5, 9), 3);
    Due.due("14: one of 0 presses", full.touch(0, 0, 1), 1);
  }

  // "LOOKINGS for one (by how much: n)" lay as THE LAW gives, each by what lies there ahead of it
  private static void touchingByText() {
    DustInOrder x = Due.grown(0, 9);
    Due.law(x, "k<2?n;1");
    // the first lays n, as one LAYER lies there, the others 1 each; more than 9 must lie
    Due.due("14: 5, then ones", x.touch(0, 1, 5), 6);
    Due.due("14: 9, then ones", x.touch(0, 1, 9), 2);
    Due.due("14: ones alone", x.touch(0, 1, 1), 10);
    Due.law(x, "w=3?0;n");
    Due.due("14: he lays nothing", x.touch(0, 3, 9), NOT);
    Due.due("14: another does", x.touch(0, 4, 9), 2);
    Due.law(x, "s*n");
    Due.due("14: by this season", x.touch(0, 4, 3), NOT);
    x.mend(0, 3, 2);
    Due.due("14: by another season", x.touch(0, 4, 3), 2);
    Due.law(x, "k>0?0;9");
    Due.due("14: nothing on what lies", x.touch(0, 5, 9), NOT);
    x.sweep(0);
    Due.due("14: on bare", x.touch(0, 5, 0), 1);
  }

  // "which SILLS (bits) one is READ of now"
  private static void tellers() {
    DustInOrder x = Due.house(0, 0, 1, 0, 2, 0, 3, 0, 4, 0);
    for (int one = 0; one <= 5; one++) {
      Due.due("15: all bare", x.tellsOf(one), 0);
    }
    Due.law(x, "w<6");
    x.look(50);
    Due.due("15: of all five", x.tellsOf(5), 31);
    Due.due("15: of none", x.tellsOf(0), 0);
    for (int sill = 0; sill < 5; sill++) {
      x.sweep(sill);
      Due.due("15: of those that are not swept", x.tellsOf(5), 31 & -1 << sill + 1);
    }
    Due.law(x, "h=4");
    x.look(0);
    Due.due("15: of the last", x.tellsOf(0), 16);
    Due.due("15: BAD below", x.tellsOf(-1), BAD);
    Due.due("15: BAD above", x.tellsOf(6), BAD);
  }

  // "the fewest SILLS of which all of told PEOPLE (bits) are READ, each of one at least: how many; which (bits; of
  // like ones the least); NOT", "HIDE: the fewest SILLS to be swept so that nobody of told PEOPLE is READ of any"
  private static void fewestSills() {
    // SILL h tells just h; 5 is told by none, then 4 and 5 by the last
    DustInOrder x = Due.house(0, 0, 1, 0, 2, 0, 3, 0, 4, 0);
    for (int set : new int[] {0, 1, 63}) {
      Due.due("16: all bare", x.fewest(set, 0), set == 0 ? 0 : NOT);
      Due.due("16: all bare, which", x.fewest(set, 1), set == 0 ? 0 : NOT);
      Due.due("16: all bare, hide", x.fewest(set, 2), 0);
    }
    Due.law(x, "w=h");
    for (int one = 0; one <= 5; one++) {
      x.look(10 * one);
    }
    for (int set = 0; set < 64; set++) {
      boolean is5 = set >= 32;
      Due.due("16: how many of " + set, x.fewest(set, 0), is5 ? NOT : Integer.bitCount(set));
      Due.due("16: which of " + set, x.fewest(set, 1), is5 ? NOT : set);
      Due.due("16: hide " + set, x.fewest(set, 2), set & 31);
    }
    Due.law(x, "h=4&w=5");
    x.look(50);
    Due.due("16: all six by five", x.fewest(63, 0), 5);
    Due.due("16: all six by all", x.fewest(63, 1), 31);
    Due.due("16: all six by all are hidden", x.fewest(63, 2), 31);
    for (int set : new int[] {-1, 64, 65, MAX, MIN}) {
      for (int what = 0; what <= 2; what++) {
        Due.due("16: set " + set, x.fewest(set, what), BAD);
      }
    }
    Due.due("16: BAD is named ahead of NOT", x.fewest(32, 3), BAD);
  }

  private static void fewestLikeOnes() {
    DustInOrder x = Due.house(0, 0, 0, 0, 0, 0, 0, 0, 0, 0);
    x.look(9);
    x.look(19);
    Due.due("16: like ones, the least", x.fewest(3, 1), 1);
    Due.due("16: one is enough", x.fewest(3, 0), 1);
    x.sweep(0);
    Due.due("16: the next", x.fewest(3, 1), 2);
    x.blow(1, 9);
    x.sweep(2);
    x.sweep(3);
    Due.due("16: one later of both is fewer than two", x.fewest(3, 1), 16);
    x.sweep(4);
    Due.due("16: half is not enough", x.fewest(3, 1), NOT);
    // fewer go ahead of those whose bits are less
    DustInOrder y = Due.house(0, 0, 1, 0, 2, 0);
    Due.law(y, "h=0&w=0|h=1&w=1|h=2&w<2");
    y.look(0);
    y.look(10);
    Due.due("16: fewer first", y.fewest(3, 1), 4);
    Due.due("16: fewer first, how many", y.fewest(3, 0), 1);
    Due.due("16: hide takes all who tell", y.fewest(3, 2), 7);
  }

  // "the SILL of which most unlike PEOPLE are READ (of like ones the least); NOT: no SILLS"
  private static void corners() {
    DustInOrder x = new DustInOrder();
    Due.due("17: no SILLS", x.corner(), NOT);
    for (int h = 0; h < 5; h++) {
      x.sill(h, 0);
      Due.due("17: all bare, the least", x.corner(), 0);
    }
    for (int h = 4; h >= 0; h--) {
      Due.law(x, "h=" + h);
      x.look(0);
      Due.due("17: one each, the least", x.corner(), h);
    }
    Due.law(x, "h=4");
    x.look(10);
    Due.due("17: two", x.corner(), 4);
    Due.law(x, "h=3");
    for (int looking : new int[] {10, 0, 10, 0, 10}) {
      x.look(looking);
    }
    Due.due("17: six LAYERS of two are not more", x.corner(), 3);
    Due.law(x, "h=4");
    for (int one = 2; one <= 5; one++) {
      x.look(10 * one);
      Due.due("17: more unlike ones", x.corner(), 4);
    }
    Due.law(x, "h<4");
    for (int one = 0; one <= 5; one++) {
      x.look(10 * one);
    }
    Due.due("17: all six on each, the least", x.corner(), 0);
  }

  public static void main(String[] args) {
    firstOfABook();
    fortyAtMost();
    whatIsNone();
    booksThatAreNone();
    nothingLies();
    mostLies();
    kthOfThem();
    ofWhomMost();
    bareOnes();
    fullOnesAreNotBare();
    breaths();
    clearing();
    touching();
    touchingByText();
    tellers();
    fewestSills();
    fewestLikeOnes();
    corners();
    Due.end();
  }
}
