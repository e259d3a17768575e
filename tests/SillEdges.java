/** The boundary cases of part 1 of 'Terms' (but for THE LAW) and of promises 1 to 6 and 9, sentence by sentence. */
public final class SillEdges {
  private static final int BAD = Due.BAD, NOT = Due.NOT, FULL = Due.FULL, STATE = Due.STATE;
  private static final int KIND = Due.KIND, MAX = Due.MAX, MIN = Due.MIN;

  // "BAD = -1, NOT = -2, FULL = -3, STATE = -5, VOID = -2000000000"
  private static void constants() {
    Due.due("BAD", DustInOrder.BAD, -1);
    Due.due("NOT", DustInOrder.NOT, -2);
    Due.due("FULL", DustInOrder.FULL, -3);
    Due.due("STATE", DustInOrder.STATE, -5);
    Due.due("VOID", DustInOrder.VOID, -2000000000);
  }

  // "A house without sills."
  private static void houseWithoutSills() {
    DustInOrder x = new DustInOrder();
    Due.due("1: SILLS", x.count(0), 0);
    noSill("1", x, 0);
    Due.due("1: nobody is read", x.tellsOf(0), 0);
    Due.due("1: none tell nobody", x.fewest(0, 0), 0);
    Due.due("1: which tell nobody", x.fewest(0, 1), 0);
    Due.due("1: none tell one", x.fewest(1, 0), NOT);
    Due.due("1: which tell one", x.fewest(1, 1), NOT);
    Due.due("1: none is to be swept", x.fewest(63, 2), 0);
    Due.due("1: corner", x.corner(), NOT);
    Due.due("1: expected", x.expected(), NOT);
    Due.due("1: likely, above", x.likely(0, 0), 0);
    Due.due("1: likely, below", x.likely(0, 1), 1);
    Due.due("1: nothing is laid", x.look(9), 0);
    Due.due("1: the first sill is 0", x.sill(9, 9), 0);
  }

  // "SEASON (0 .. 3; 0 at first), MISS (0 .. 9 of each of the PEOPLE; 5 at first)", "nothing (at first)"
  private static void atFirst() {
    DustInOrder x = new DustInOrder();
    Due.due("1: SEASON", x.of(0, 3), 0);
    for (int one = 0; one <= 5; one++) {
      Due.due("1: MISS of " + one, x.of(one, 2), 5);
    }
    for (int what = 0; what <= 4; what++) {
      Due.due("1: LED " + what, x.led(what), 0);
      Due.due("1: count " + what, x.count(what), 0);
    }
    for (int shelf = 0; shelf <= 5; shelf++) {
      Due.due("1: SHELF " + shelf, x.taken(shelf, 0), Due.NOTHING);
      Due.due("1: no element", x.element(shelf, 0), Due.BAD_LONG);
    }
    Due.due("1: no image", x.back(), STATE);
    Due.due("1: no change", x.undo(), STATE);
    Due.due("1: no change again", x.redo(), STATE);
    Due.due("1: no trace", x.trace(0), BAD);
    Due.due("1: no body", x.keep(0, 0), BAD);
    Due.due("1: no text on the tape", x.law(), -100);
  }

  // "An object is used for at most 512 calls after it has been made"
  private static void lastCall() {
    DustInOrder x = Due.house(0, 0);
    for (int i = 0; i < 510; i++) {
      x.look(i % 66);
    }
    Due.due("the 512th call", x.led(0), 510);
  }

  // "SILLS 0 .. 4, as they come", "A bare SILL: its number. BAD, FULL: 5."
  private static void sillsAsTheyCome() {
    DustInOrder x = new DustInOrder();
    for (int i = 0; i < 5; i++) {
      for (int missing = i; missing <= 5; missing++) {
        noSill("2: with " + i, bare(i), missing);
      }
      Due.due("2: number", x.sill(9 - i, i), i);
      Due.due("2: how many", x.count(0), i + 1);
      Due.due("2: HIGH", x.of(i, 0), 9 - i);
      Due.due("2: DRAUGHT", x.of(i, 1), i);
      Due.lies("2: bare", x, i);
    }
    Due.due("2: the sixth", x.sill(0, 0), FULL);
    Due.due("2: the sixth, highest", x.sill(9, 9), FULL);
    Due.due("2: BAD is named ahead of FULL", x.sill(10, 9), BAD);
    Due.due("2: BAD is named ahead of FULL", x.sill(0, -1), BAD);
    Due.due("2: five", x.count(0), 5);
    for (int i = 0; i < 5; i++) {
      Due.due("2: HIGH still", x.of(i, 0), 9 - i);
      aSill("2: with 5", bare(5), i);
    }
    for (int missing : Due.outside(0, 4)) {
      noSill("2: with 5", bare(5), missing);
    }
  }

  private static DustInOrder bare(int sills) {
    return Due.house(new int[2 * sills]);
  }

  /** Each call that is told a SILL is BAD where it is not there. */
  private static void noSill(String name, DustInOrder x, int sill) {
    x.row(0, 0, 1);
    String of = name + ": no SILL " + sill;
    for (int what : new int[] {0, 1, 4, 5}) {
      Due.due(of + ": of", x.of(sill, what), BAD);
    }
    Due.due(of + ": HIGH", x.mend(sill, 0, 1), BAD);
    Due.due(of + ": DRAUGHT", x.mend(sill, 1, 1), BAD);
    Due.due(of + ": layer", x.layer(sill, 0, 0), BAD);
    Due.due(of + ": lays", x.lays(sill, 0), BAD);
    Due.due(of + ": later", x.later(0, 0, sill, 0), BAD);
    Due.due(of + ": laid", x.laid(0, 0, sill, 0), BAD);
    Due.due(of + ": breath", x.breath(sill, 0, 0), BAD);
    Due.due(of + ": clear", x.clear(sill, 0), BAD);
    Due.due(of + ": touch", x.touch(sill, 0, 9), BAD);
    Due.due(of + ": ways", x.ways(sill, 0), Due.BAD_LONG);
    Due.due(of + ": first", x.first(sill, 1, 0), BAD);
    Due.due(of + ": least", x.least(sill), BAD);
    Due.due(of + ": certain", x.certain(sill, 0), BAD);
    Due.due(of + ": judge", x.judge(0, sill), BAD);
    Due.due(of + ": drawn", x.drawn(0, 101, sill, -1), BAD);
    Due.due(of + ": blow", x.blow(sill, 0), BAD);
    Due.due(of + ": sweep", x.sweep(sill), BAD);
    if (sill >= 0 && sill <= 9) {
      Due.due(of + ": alike", x.alike(sill, -1), BAD);
      Due.due(of + ": alike, the one", x.alike(10 * sill, -1), BAD);
      Due.due(of + ": same", x.same(sill), BAD);
      Due.due(of + ": same, the one", x.same(10 * sill), BAD);
    }
  }

  /** None of the calls that are told a SILL is BAD where it is there, and bare. */
  private static void aSill(String name, DustInOrder x, int sill) {
    x.row(0, 0, 1);
    String of = name + ": SILL " + sill;
    Due.due(of + ": of", x.of(sill, 4), 0);
    Due.due(of + ": HIGH", x.mend(sill, 0, x.of(sill, 0)), x.of(sill, 0));
    Due.due(of + ": layer", x.layer(sill, 0, 0), NOT);
    Due.due(of + ": lays", x.lays(sill, 0), 0);
    Due.due(of + ": later", x.later(0, 0, sill, 0), 0);
    Due.due(of + ": laid", x.laid(0, 0, sill, 0), NOT);
    Due.due(of + ": breath", x.breath(sill, 0, 0), NOT);
    Due.due(of + ": clear", x.clear(sill, 0), 0);
    Due.due(of + ": touch", x.touch(sill, 0, 9), 1);
    Due.due(of + ": ways", x.ways(sill, 0), 1);
    Due.due(of + ": first", x.first(sill, 1, 0), 0);
    Due.due(of + ": least", x.least(sill), 0);
    Due.due(of + ": certain", x.certain(sill, 0), 0);
    Due.due(of + ": alike", x.alike(sill, -1), 0);
    Due.due(of + ": same", x.same(10 * sill), 1);
    Due.due(of + ": judge", x.judge(0, sill), 0);
    Due.isNot(of + ": drawn", x.drawn(0, 101, sill, -1), BAD);
    Due.due(of + ": blow", x.blow(sill, 99), 0);
    Due.due(of + ": sweep", x.sweep(sill), 0);
  }

  // "HIGH (0 .. 9), DRAUGHT (0 .. 9)"
  private static void highsAndDraughts() {
    for (int v = 0; v <= 9; v++) {
      DustInOrder x = Due.house(v, 9 - v);
      Due.due("2: HIGH " + v, x.of(0, 0), v);
      Due.due("2: DRAUGHT " + (9 - v), x.of(0, 1), 9 - v);
    }
    for (int v : Due.outside(0, 9)) {
      DustInOrder x = new DustInOrder();
      Due.due("2: HIGH " + v, x.sill(v, 0), BAD);
      Due.due("2: DRAUGHT " + v, x.sill(9, v), BAD);
      Due.due("2: none came", x.count(0), 0);
    }
  }

  // "from place i on, n (1 .. 5) of them: how many came (0 with i below 0)"
  private static void sillsFromPlaces() {
    int[][] iNCame = {{0, 1, 1}, {0, 2, 2}, {0, 3, 3}, {0, 4, 3}, {0, 5, 3}, {1, 5, 3}, {2, 5, 2}, {3, 5, 2}, {4, 5, 1},
      {5, 5, 1}, {6, 5, 0}, {7, 5, 0}, {8, 5, 0}, {60, 1, 0}, {-1, 1, 0}, {-2, 5, 0}, {MIN, 5, 0}, {MAX, 5, 0}, {MAX - 1, 1, 0},
      {MAX - 9, 5, 0}, {-256, 1, 0}};
    for (int[] c : iNCame) {
      DustInOrder x = new DustInOrder();
      Due.row(x, 5, 0, 1, 2, 3, 4, 5, 6, 7);
      String name = "3: from " + c[0] + ", " + c[1];
      Due.due(name, x.sills(5, c[0], c[1]), c[2]);
      Due.due(name + ": came", x.count(0), c[2]);
      for (int i = 0; i < c[2]; i++) {
        Due.due(name + ": HIGH", x.of(i, 0), c[0] + 2 * i + 1);
        Due.due(name + ": DRAUGHT", x.of(i, 1), c[0] + 2 * i + 2);
        Due.due(name + ": bare", x.of(i, 4), 0);
      }
    }
  }

  // "n of them; it ends where the row ... ends (within a two, too)": rows of 0, 1, 2 and of 60
  private static void sillsWhereTheRowEnds() {
    for (int size = 0; size <= 11; size++) {
      DustInOrder x = new DustInOrder();
      x.row(0, 0, size);
      Due.due("3: of " + size, x.sills(0, 0, 5), Math.min(5, size / 2));
    }
    for (int i = 48; i <= 61; i++) {
      DustInOrder x = new DustInOrder();
      x.row(0, 0, 60);
      Due.due("3: of 60 from " + i, x.sills(0, i, 5), Math.max(0, Math.min(5, (60 - i) / 2)));
    }
  }

  // "it ends where ... one is not as it may be ...: those ahead came"
  private static void sillsNotAsTheyMayBe() {
    for (int v = -128; v <= 127; v++) {
      boolean isGood = v >= 0 && v <= 9;
      for (int place = 0; place < 6; place++) {
        DustInOrder x = new DustInOrder();
        Due.row(x, 0, 0, 9, 0, 0, 9, 9, 9);
        x.put(0, place, v);
        Due.due("3: " + v + " at " + place, x.sills(0, 0, 3), isGood ? 3 : place / 2);
        Due.due("3: came", x.count(0), isGood ? 3 : place / 2);
      }
    }
    // only what is told: one behind them may be as it likes
    DustInOrder x = new DustInOrder();
    Due.row(x, 0, 0, 9, 0, 10, 10);
    Due.due("3: one of them", x.sills(0, 0, 1), 1);
  }

  // "or SILLS are FULL: those ahead came"
  private static void sillsTillFull() {
    for (int there = 0; there <= 5; there++) {
      for (int n = 1; n <= 5; n++) {
        DustInOrder x = bare(there);
        Due.row(x, 0, 0, 1, 2, 3, 4, 5, 6, 7, 8, 9, 0);
        int came = Math.min(n, 5 - there);
        Due.due("3: " + n + " to " + there, x.sills(0, 0, n), came);
        Due.due("3: all", x.count(0), there + came);
        if (came > 0) {
          Due.due("3: the last one", x.of(there + came - 1, 0), 2 * came - 1);
        }
      }
    }
  }

  // "BAD, -12 (no ROW of bytes; a SHELF that holds nothing is missing)"; "-12 it is of another kind"
  private static void sillsOfOtherKinds() {
    DustInOrder x = new DustInOrder();
    Due.due("3: nothing there", x.sills(0, 0, 1), 0);
    Due.due("3: nothing there, far", x.sills(5, MAX, 5), 0);
    for (int sort = 0; sort <= 4; sort++) {
      x.row(0, sort, 2);
      Due.due("3: sort " + sort, x.sills(0, 0, 1), sort == 0 ? 1 : KIND);
      x.row(0, sort, 0);
      Due.due("3: sort " + sort + ", none", x.sills(0, 0, 1), sort == 0 ? 0 : KIND);
    }
    x.body(7);
    x.keep(0, 0);
    Due.due("3: a body", x.sills(0, 0, 1), KIND);
    Due.due("3: BAD is named ahead of -12", x.sills(0, 0, 0), BAD);
    Due.due("3: BAD is named ahead of -12", x.sills(0, 0, 6), BAD);
    Due.due("3: BAD goes ahead of what is missing", x.sills(1, 0, 6), BAD);
    Due.due("3: BAD goes ahead of 0 below 0", x.sills(1, -1, 0), BAD);
    x.keep(0, -1);
    Due.due("3: nothing there any more", x.sills(0, 0, 1), 0);
    Due.due("3: one came", x.count(0), 1);
  }

  // "HIGH (what 0), DRAUGHT (1) of a SILL, MISS (2) of one of PEOPLE, SEASON (3; number 0) becomes v: what it was"
  private static void mended() {
    int[][] numbers = {{0, 0, 9, 4}, {4, 0, 9, 4}, {0, 1, 9, 6}, {4, 1, 9, 6}, {0, 2, 9, 5}, {5, 2, 9, 5}, {0, 3, 3, 0}};
    for (int[] n : numbers) {
      DustInOrder x = Due.house(4, 6, 4, 6, 4, 6, 4, 6, 4, 6);
      int was = n[3];
      for (int v : new int[] {0, n[2], n[2], 1, n[2] - 1, 0}) {
        Due.due("4: was " + n[0] + " " + n[1], x.mend(n[0], n[1], v), was);
        Due.due("5: is " + n[0] + " " + n[1], x.of(n[0], n[1]), v);
        was = v;
      }
      for (int v : Due.outside(0, n[2])) {
        Due.due("4: " + n[0] + " " + n[1] + " to " + v, x.mend(n[0], n[1], v), BAD);
        Due.due("5: still " + n[0] + " " + n[1], x.of(n[0], n[1]), was);
      }
      int others = 0;
      for (int sill = 0; sill < 5; sill++) {
        others += (x.of(sill, 0) == 4 ? 0 : 1) + (x.of(sill, 1) == 6 ? 0 : 1);
      }
      for (int one = 0; one < 6; one++) {
        others += x.of(one, 2) == 5 ? 0 : 1;
      }
      Due.due("4: no other number", others, n[1] == 3 ? 0 : 1);
    }
    // 4 and 5 are of() alone
    DustInOrder x = Due.grown(0, 5);
    Due.due("4: LAYERS are no number of mend()", x.mend(0, 4, 1), BAD);
    Due.due("4: THICK is no number of mend()", x.mend(0, 5, 5), BAD);
    Due.lies("4: as it lay", x, 0, 0, 5);
  }

  // "of a SILL 4 how many LAYERS lie there, 5 all THICK together"
  private static void ofNoneAndMost() {
    DustInOrder x = Due.house(0, 0);
    Due.due("5: bare", x.of(0, 4), 0);
    Due.due("5: bare, all", x.of(0, 5), 0);
    for (int k = 0; k < 12; k++) {
      Due.grow(x, k % 2, 99);
      Due.due("5: LAYERS", x.of(0, 4), k + 1);
      Due.due("5: all", x.of(0, 5), 99 * (k + 1));
    }
    x.look(29);
    Due.due("5: never 13", x.of(0, 4), 12);
    Due.due("5: all of 12", x.of(0, 5), 99 * 11 + 9);
  }

  // "LAYERS, 0 the lowest, 12 at most: WHOM (0 .. 5), THICK (1 .. 99)"; "NOT: there are not as many"
  private static void layersLowAndHigh() {
    DustInOrder x = Due.house(0, 0);
    Due.due("6: bare", x.layer(0, 0, 0), NOT);
    Due.due("6: bare, THICK", x.layer(0, 0, 1), NOT);
    Due.grow(x, 5, 99);
    Due.due("6: greatest WHOM", x.layer(0, 0, 0), 5);
    Due.due("6: greatest THICK", x.layer(0, 0, 1), 99);
    Due.due("6: second", x.layer(0, 1, 0), NOT);
    x.look(1);
    Due.due("6: least WHOM", x.layer(0, 1, 0), 0);
    Due.due("6: least THICK", x.layer(0, 1, 1), 1);
    for (int k = 2; k < 12; k++) {
      Due.due("6: not yet", x.layer(0, k, 1), NOT);
      x.look(k % 2 * 10 + 12);
      Due.due("6: now", x.layer(0, k, 1), 2);
    }
    for (int k : new int[] {12, 13, 60, 256, 65536, MAX - 1, MAX}) {
      Due.due("6: " + k, x.layer(0, k, 0), NOT);
      Due.due("6: THICK " + k, x.layer(0, k, 1), NOT);
    }
    for (int k : new int[] {-1, -2, -12, -256, MIN, MIN + 1}) {
      Due.due("6: " + k, x.layer(0, k, 0), BAD);
      Due.due("6: THICK " + k, x.layer(0, k, 1), BAD);
    }
    Due.due("6: BAD is named ahead of NOT", x.layer(0, 12, 2), BAD);
    Due.due("6: BAD is named ahead of NOT", x.layer(1, 12, 0), BAD);
  }

  // "Without a text: n, less g by 3 (cut), 0 at least"
  private static void withoutText() {
    for (int g = 0; g <= 9; g++) {
      DustInOrder x = Due.house(9, g);
      x.mend(0, 3, 3);
      for (int n = 0; n <= 9; n++) {
        int less = g >= 9 ? 3 : g >= 6 ? 2 : g >= 3 ? 1 : 0;
        int want = n > less ? n - less : 0;
        for (int one = 0; one <= 5; one++) {
          Due.due("9: " + n + " at " + g, x.lays(0, 10 * one + n), want);
        }
      }
    }
  }

  // "a LOOKING (0 .. 65)": "60 to 65: of PEOPLE 0 to 5 by MISS"; 59 is of 5 by 9
  private static void lookingsByMiss() {
    DustInOrder x = Due.house(0, 0);
    Due.law(x, "w+1");
    for (int looking = 0; looking <= 65; looking++) {
      Due.due("9: whom of " + looking, x.lays(0, looking), looking < 60 ? looking / 10 + 1 : looking - 59);
    }
    Due.law(x, "n");
    for (int miss = 0; miss <= 9; miss++) {
      for (int one = 0; one <= 5; one++) {
        x.mend(one, 2, miss);
        Due.due("9: MISS " + miss + " of " + one, x.lays(0, 60 + one), miss);
      }
    }
    Due.due("9: 59", x.lays(0, 59), 9);
    Due.due("9: 0", x.lays(0, 0), 0);
    Due.due("9: 66", x.lays(0, 66), BAD);
    Due.due("9: nothing is laid", x.of(0, 4), 0);
  }

  // "nothing, if that is 0; else the uppermost LAYER, if it is of that one, ...; else a new LAYER comes"
  private static void nothingThickerOrNew() {
    DustInOrder x = Due.house(0, 0);
    x.look(0);
    Due.lies("28: nothing on bare", x, 0);
    x.look(1);
    Due.lies("28: new on bare", x, 0, 0, 1);
    x.look(50);
    Due.lies("28: nothing on another", x, 0, 0, 1);
    x.look(0);
    Due.lies("28: nothing on his own", x, 0, 0, 1);
    x.look(1);
    Due.lies("28: thicker", x, 0, 0, 2);
    x.look(51);
    Due.lies("28: another", x, 0, 0, 2, 5, 1);
    x.look(1);
    Due.lies("28: his own lies lower", x, 0, 0, 2, 5, 1, 0, 1);
  }

  // "so much THICKER (99 at most)"
  private static void ninetyNineAtMost() {
    for (int was = 85; was <= 99; was++) {
      for (int n = 1; n <= 9; n++) {
        DustInOrder x = Due.grown(3, was);
        Due.due("28: grains " + was + " and " + n, x.look(30 + n), Math.min(n, 99 - was));
        Due.lies("28: " + was + " and " + n, x, 0, 3, Math.min(99, was + n));
        // a LAYER at its most does not begin another of the same one
        x.look(31);
        Due.due("28: still one LAYER", x.of(0, 4), 1);
      }
    }
  }

  // "All memory is the class's own.": what one house is told another one does not know
  private static void twoHouses() {
    DustInOrder one = Due.grown(3, 20, 4, 5);
    DustInOrder other = new DustInOrder();
    Due.law(one, "n/2");
    one.feed('7');
    one.mend(2, 2, 9);
    one.mend(0, 3, 3);
    one.image();
    one.body(5);
    one.act(0, 3, 1);
    Due.book(one, 12, 13);
    for (int what = 0; what <= 4; what++) {
      Due.due("1: count " + what, other.count(what), 0);
      Due.due("1: LED " + what, other.led(what), 0);
    }
    Due.due("1: MISS", other.of(2, 2), 5);
    Due.due("1: SEASON", other.of(0, 3), 0);
    Due.due("1: no image", other.back(), STATE);
    Due.due("1: no change", other.undo(), STATE);
    Due.due("1: no trace", other.trace(0), BAD);
    Due.due("1: no row", other.taken(0, 0), Due.NOTHING);
    Due.due("1: the first sill", other.sill(0, 0), 0);
    Due.lies("1: bare", other, 0);
    Due.due("1: without a text", other.lays(0, 9), 9);
    other.look(59);
    Due.lies("1: the one is as it was", one, 0, 3, 20, 4, 5);
  }

  private static int[] twelve(int... lowest) {
    int[] all = java.util.Arrays.copyOf(lowest, 24);
    for (int k = lowest.length / 2; k < 12; k++) {
      all[2 * k] = 2 + k % 2;
      all[2 * k + 1] = k;
    }
    return all;
  }

  private static int[] behind(int[] twelve, int thick, int whomAbove, int thickAbove) {
    int[] all = new int[24];
    System.arraycopy(twelve, 4, all, 2, 20);
    all[0] = twelve[0];
    all[1] = thick;
    all[22] = whomAbove;
    all[23] = thickAbove;
    return all;
  }

  // "If there would be 13, the two lowest become one ahead: WHOM of the lower one, THICK of both (99 at most)"
  private static void pressed() {
    int[][] both = {{1, 1, 2}, {49, 49, 98}, {50, 49, 99}, {49, 50, 99}, {50, 50, 99}, {98, 1, 99}, {99, 1, 99}, {1, 98, 99},
      {1, 99, 99}, {99, 99, 99}};
    for (int[] b : both) {
      int[] all = twelve(0, b[0], 1, b[1]);
      DustInOrder x = Due.grown(all);
      Due.lies("28: twelve lie", x, 0, all);
      Due.due("28: grains of the thirteenth", x.look(59), 9);
      Due.lies("28: pressed " + b[0] + " and " + b[1], x, 0, behind(all, b[2], 5, 9));
    }
  }

  // a thirteenth would come only of another one by whom something is laid
  private static void notPressed() {
    int[] all = twelve(0, 4, 1, 4);
    DustInOrder x = Due.grown(all);
    x.look(50);
    Due.lies("28: nothing is laid", x, 0, all);
    x.look(32);
    all[23] += 2;
    Due.lies("28: thicker at twelve", x, 0, all);
    x.blow(0, all[23]);
    Due.due("28: eleven", x.of(0, 4), 11);
    x.look(51);
    all[22] = 5;
    all[23] = 1;
    Due.lies("28: the twelfth", x, 0, all);
    x.look(41);
    Due.lies("28: the thirteenth", x, 0, behind(all, 8, 4, 1));
  }

  // "if the new lowest and the one above are of the same one then, they stay two"
  private static void pressedTwins() {
    int[] all = twelve(0, 4, 1, 5, 0, 6);
    DustInOrder x = Due.grown(all);
    x.look(53);
    int[] once = behind(all, 9, 5, 3);
    Due.lies("28: they stay two", x, 0, once);
    Due.due("28: of one", once[0] - once[2], 0);
    x.look(12);
    Due.lies("28: they become one by the next", x, 0, behind(once, 15, 1, 2));
    // pressed till each LAYER that lay is in the lowest
    DustInOrder y = Due.grown(twelve(0, 99, 1, 99));
    for (int i = 0; i < 30; i++) {
      y.look(10 * (4 + i % 2) + 1);
    }
    Due.lies("28: pressed thirty times", y, 0, 0, 99, 5, 1, 4, 1, 5, 1, 4, 1, 5, 1, 4, 1, 5, 1, 4, 1, 5, 1, 4, 1, 5, 1);
  }

  public static void main(String[] args) {
    constants();
    houseWithoutSills();
    atFirst();
    lastCall();
    sillsAsTheyCome();
    highsAndDraughts();
    sillsFromPlaces();
    sillsWhereTheRowEnds();
    sillsNotAsTheyMayBe();
    sillsTillFull();
    sillsOfOtherKinds();
    mended();
    ofNoneAndMost();
    layersLowAndHigh();
    withoutText();
    lookingsByMiss();
    nothingThickerOrNew();
    twoHouses();
    ninetyNineAtMost();
    pressed();
    notPressed();
    pressedTwins();
    Due.end();
  }
}
