import java.util.function.Supplier;

/**
 * Each argument of each call: the last value that is taken and the first that is refused, on both sides,
 * with the other arguments at their own ends.
 */
public final class Ranges {
  private interface Call {
    long on(DustInOrder x, int[] a);
  }

  private static final int BAD = Due.BAD;

  /** Three SILLS with dust, BODIES of each KIND, a ROW of bytes on each SHELF. */
  private static DustInOrder furnished() {
    DustInOrder x = Due.house(1, 0, 2, 1, 3, 2);
    Due.looks(x, 5, 16, 27, 38);
    for (int kind = 0; kind < 8; kind++) {
      x.body(kind);
    }
    for (int shelf = 0; shelf <= 5; shelf++) {
      x.row(shelf, 0, 10);
    }
    x.act(5, 3, 1);
    return x;
  }

  private static final Supplier<DustInOrder> MADE = Ranges::furnished;

  /** lowsAndHighs: of each argument the least and the greatest value that is taken. */
  private static void check(String name, Call call, long refusal, int... lowsAndHighs) {
    int[] args = new int[lowsAndHighs.length / 2];
    inside(name, call, refusal, lowsAndHighs, args, 0);
    for (int wrong = 0; wrong < args.length; wrong++) {
      outside(name, call, refusal, lowsAndHighs, args, 0, wrong);
    }
  }

  private static void inside(String name, Call call, long refusal, int[] ranges, int[] args, int i) {
    if (i == args.length) {
      Due.isNot(told(name, args), call.on(MADE.get(), args.clone()), refusal);
      return;
    }
    for (int v : Due.ends(ranges[2 * i], ranges[2 * i + 1])) {
      args[i] = v;
      inside(name, call, refusal, ranges, args, i + 1);
    }
  }

  private static void outside(String name, Call call, long refusal, int[] ranges, int[] args, int i, int wrong) {
    if (i == args.length) {
      Due.due(told(name, args), call.on(MADE.get(), args.clone()), refusal);
      return;
    }
    int low = ranges[2 * i];
    int high = ranges[2 * i + 1];
    for (int v : i == wrong ? Due.outside(low, high) : new int[] {low, high}) {
      args[i] = v;
      outside(name, call, refusal, ranges, args, i + 1, wrong);
    }
  }

  private static String told(String name, int[] args) {
    return name + java.util.Arrays.toString(args);
  }

  private static void sillsAndPeople() {
    check("2: sill", (x, a) -> x.sill(a[0], a[1]), BAD, 0, 9, 0, 9);
    check("3: sills", (x, a) -> x.sills(a[0], 0, a[1]), BAD, 0, 5, 1, 5);
    check("4: mend HIGH", (x, a) -> x.mend(a[0], 0, a[1]), BAD, 0, 2, 0, 9);
    check("4: mend DRAUGHT", (x, a) -> x.mend(a[0], 1, a[1]), BAD, 0, 2, 0, 9);
    check("4: mend MISS", (x, a) -> x.mend(a[0], 2, a[1]), BAD, 0, 5, 0, 9);
    check("4: mend SEASON", (x, a) -> x.mend(a[0], 3, a[1]), BAD, 0, 0, 0, 3);
    check("4: mend what", (x, a) -> x.mend(0, a[0], 1), BAD, 0, 3);
    check("5: of HIGH", (x, a) -> x.of(a[0], 0), BAD, 0, 2);
    check("5: of DRAUGHT", (x, a) -> x.of(a[0], 1), BAD, 0, 2);
    check("5: of MISS", (x, a) -> x.of(a[0], 2), BAD, 0, 5);
    check("5: of SEASON", (x, a) -> x.of(a[0], 3), BAD, 0, 0);
    check("5: of, how many LAYERS", (x, a) -> x.of(a[0], 4), BAD, 0, 2);
    check("5: of, all THICK", (x, a) -> x.of(a[0], 5), BAD, 0, 2);
    check("5: of what", (x, a) -> x.of(0, a[0]), BAD, 0, 5);
    check("6: layer", (x, a) -> x.layer(a[0], a[1], a[2]), BAD, 0, 2, 0, Due.MAX, 0, 1);
    check("7: feed", (x, a) -> x.feed(a[0]), BAD, 0, 255);
    check("9: lays", (x, a) -> x.lays(a[0], a[1]), BAD, 0, 2, 0, 65);
  }

  private static void inThought() {
    check("10: later", (x, a) -> x.later(a[0], a[1], a[2], a[3]), BAD, 0, 5, 0, 40, 0, 2, 0, 4);
    check("11: laid", (x, a) -> x.laid(a[0], a[1], a[2], a[3]), BAD, 0, 5, 0, 40, 0, 2, 0, 2);
    check("12: breath", (x, a) -> x.breath(a[0], a[1], a[2]), BAD, 0, 2, 0, 99, 0, 1);
    check("13: clear", (x, a) -> x.clear(a[0], a[1]), BAD, 0, 2, 0, 5);
    check("14: touch", (x, a) -> x.touch(a[0], a[1], a[2]), BAD, 0, 2, 0, 5, 0, 9);
    check("15: tellsOf", (x, a) -> x.tellsOf(a[0]), BAD, 0, 5);
    check("16: fewest", (x, a) -> x.fewest(a[0], a[1]), BAD, 0, 63, 0, 2);
    // 10 k and what: what is 0 to 2, k has no end above
    for (int kw = -40; kw <= 200; kw++) {
      kw(kw);
    }
    for (int far = 0; far < 20; far++) {
      kw(Due.MAX - far);
      kw(Due.MIN + far);
    }
  }

  private static void kw(int kw) {
    long got = furnished().laid(0, 0, 0, kw);
    if (kw >= 0 && kw % 10 <= 2) {
      Due.isNot("11: kw " + kw, got, BAD);
    } else {
      Due.due("11: kw " + kw, got, BAD);
    }
  }

  private static void readBack() {
    check("18: ways", (x, a) -> x.ways(a[0], a[1]), Due.BAD_LONG, 0, 2, 0, 9);
    check("19: first", (x, a) -> x.first(a[0], a[1], a[2]), BAD, 0, 2, 0, 9, 0, Due.MAX);
    check("20: least", (x, a) -> x.least(a[0]), BAD, 0, 2);
    check("21: certain", (x, a) -> x.certain(a[0], a[1]), BAD, 0, 2, 0, 9);
    check("22: alike's k", (x, a) -> x.alike(12, a[0]), BAD, -1, Due.MAX);
    check("24: likely", (x, a) -> x.likely(a[0], a[1]), Due.BAD_LONG, 0, 5, 0, 1);
    check("26: judge", (x, a) -> x.judge(a[0], a[1]), BAD, 0, 5, 0, 2);
    check("27: drawn", (x, a) -> x.drawn(a[0], 101, a[1], a[2]), BAD, Due.MIN, Due.MAX, 0, 2, -1, 5);
    // the one SILL and the other: both are there, or it is BAD
    for (int ab = -60; ab <= 160; ab++) {
      ab(ab);
    }
    for (int far = 0; far < 20; far++) {
      ab(Due.MAX - far);
      ab(Due.MIN + far);
      ab(256 + far);
      ab(65536 + far);
    }
    // 100 years and LOOKINGS: 1 to 30, 1 to 40
    for (int nm = -3200; nm <= 3300; nm++) {
      nm(nm);
    }
    for (int far = 0; far < 120; far++) {
      nm(Due.MAX - far);
      nm(Due.MIN + far);
      nm(65536 + 100 + far);
    }
  }

  private static void ab(int ab) {
    boolean areThere = ab >= 0 && ab <= 22 && ab % 10 <= 2;
    DustInOrder x = furnished();
    for (int k = -1; k <= 1; k++) {
      check("22: alike " + ab, x.alike(ab, k), areThere);
    }
    check("23: same " + ab, x.same(ab), areThere);
  }

  private static void check(String name, long got, boolean isTaken) {
    if (isTaken) {
      Due.isNot(name, got, BAD);
    } else {
      Due.due(name, got, BAD);
    }
  }

  private static void nm(int nm) {
    int years = nm / 100;
    int lookings = nm % 100;
    boolean isTaken = nm > 0 && years >= 1 && years <= 30 && lookings >= 1 && lookings <= 40;
    check("27: nm " + nm, furnished().drawn(3, nm, 0, -1), isTaken);
  }

  private static void inDeed() {
    check("28: look", (x, a) -> x.look(a[0]), BAD, 0, 65);
    check("29: blow", (x, a) -> x.blow(a[0], a[1]), BAD, 0, 2, 0, 99);
    check("30: sweep", (x, a) -> x.sweep(a[0]), BAD, 0, 2);
    check("31: led", (x, a) -> x.led(a[0]), BAD, 0, 4);
  }

  private static void actsAndShelves() {
    check("36: body", (x, a) -> x.body(a[0]), BAD, 0, 7);
    // ten bodies ran
    check("38: trace", (x, a) -> x.trace(a[0]), BAD, 0, 9);
    // -1 is nothing, and eight BODIES are there
    check("39: keep", (x, a) -> x.keep(a[0], a[1]), BAD, 0, 5, -1, 7);
    check("40: row", (x, a) -> x.row(a[0], a[1], 0), BAD, 0, 5, 0, 4);
    check("40: row's n", (x, a) -> x.row(0, 0, a[0]), BAD, Due.MIN, 60);
    check("40: row's size", (x, a) -> x.row(0, 4, a[0]), Due.SIZE, 0, Due.MAX);
    check("41: put", (x, a) -> x.put(a[0], 0, 1), BAD, 0, 5);
    check("41: put's place", (x, a) -> x.put(0, a[0], 1), Due.PLACE, 0, 9);
    check("42: element", (x, a) -> x.element(a[0], a[1]), Due.BAD_LONG, 0, 5, 0, 9);
    check("43: shift", (x, a) -> x.shift(a[0], 0, a[1], 0, 1), BAD, 0, 5, 0, 5);
    check("43: shift's places", (x, a) -> x.shift(0, a[0], 1, a[1], 1), Due.PLACE, 0, 9, 0, 9);
    check("43: shift's n", (x, a) -> x.shift(0, 0, 1, 0, a[0]), Due.PLACE, 0, 10);
    check("44: taken", (x, a) -> x.taken(a[0], a[1]), BAD, 0, 5, 0, 7);
    check("45: count", (x, a) -> x.count(a[0]), BAD, 0, 4);
  }

  public static void main(String[] args) {
    sillsAndPeople();
    inThought();
    readBack();
    inDeed();
    actsAndShelves();
    Due.end();
  }
}
