import java.util.ArrayList;
import java.util.List;

/**
 * "What is answered so changes nothing": two houses that were told the same, one of them asked besides what it
 * refuses (or what is only thought); then both are asked all that tells a difference. The same of what is taken and
 * is a change of one thing alone.
 */
public final class Unchanged {
  private static final int BAD = Due.BAD, NOT = Due.NOT, FULL = Due.FULL, STATE = Due.STATE;
  private static final int NOTHING = Due.NOTHING, KIND = Due.KIND, PLACE = Due.PLACE, SIZE = Due.SIZE;
  private static final int MAX = Due.MAX, MIN = Due.MIN;

  private interface Call {
    long on(DustInOrder x);
  }

  private interface House {
    DustInOrder made();
  }

  /** What tells a difference: asked in groups, each of fresh houses, as a house is used for 512 calls at most. */
  private interface Eye {
    void look(DustInOrder x, List<Long> told);
  }

  // ---- houses

  private static DustInOrder empty() {
    return new DustInOrder();
  }

  /** Some of all: SHELF 4 holds a BODY, 5 nothing, the others ROWS; an image, changes done and undone. */
  private static DustInOrder furnished() {
    DustInOrder x = Due.house(2, 0, 5, 3, 9, 9);
    Due.law(x, "n+s-g/3");
    x.mend(0, 0, 4);
    x.mend(1, 1, 5);
    x.mend(3, 2, 8);
    x.mend(0, 3, 1);
    x.mend(2, 0, 6);
    x.undo();
    x.undo();
    Due.looks(x, 9, 16, 3, 27, 63, 45);
    x.image();
    Due.looks(x, 52, 8);
    x.blow(0, 3);
    x.sweep(2);
    x.look(38);
    for (int kind = 0; kind < 8; kind++) {
      x.body(kind);
    }
    x.act(5, 3, 4);
    Due.row(x, 0, 0, 1, 12, 64, 33, 9, 5);
    Due.row(x, 1, 1, 300, -300, 7);
    Due.row(x, 2, 3, Long.MIN_VALUE, 1);
    Due.row(x, 3, 4, 1, 0, 1);
    x.keep(4, 5);
    Due.feed(x, "n+");
    return x;
  }

  /** Five SILLS of twelve LAYERS, forty changes. */
  private static DustInOrder fullHouse() {
    DustInOrder x = Due.house(0, 0, 1, 0, 2, 0, 3, 0, 4, 9);
    for (int k = 0; k < 13; k++) {
      Due.grow(x, k % 5, 9 + k);
    }
    for (int i = 1; i <= 41; i++) {
      x.mend(i % 5, 0, (x.of(i % 5, 0) + 1) % 10);
    }
    x.image();
    Due.row(x, 0, 0, 1, 2, 3, 4);
    return x;
  }

  private static DustInOrder fullTape() {
    DustInOrder x = Due.house(1, 2);
    x.look(17);
    Due.feed(x, "n" + Due.times("+0", 58) + "+07");
    return x;
  }

  private static DustInOrder fullBodies() {
    DustInOrder x = Due.house(1, 2);
    for (int n = 0; n < 50; n++) {
      x.body(n % 8);
    }
    x.act(45, 3, 1);
    x.keep(0, 49);
    return x;
  }

  private static void housesAreAsTold() {
    DustInOrder x = fullHouse();
    Due.due("five SILLS", x.count(0), 5);
    Due.due("forty changes", x.count(2), 40);
    for (int sill = 0; sill < 5; sill++) {
      Due.due("twelve LAYERS", x.of(sill, 4), 12);
    }
    Due.due("120 bytes", fullTape().count(1), 120);
    Due.due("fifty BODIES", fullBodies().count(3), 50);
    DustInOrder y = furnished();
    Due.due("three changes", y.count(2), 3);
    Due.due("one of two done again", y.redo(), 1);
    Due.due("one LAYER behind a sweeping", y.of(2, 4), 1);
    Due.due("ten ran", y.count(4), 10);
  }

  // ---- eyes

  private static void add(List<Long> told, long... answers) {
    for (long a : answers) {
      told.add(a);
    }
  }

  private static void numbers(DustInOrder x, List<Long> told) {
    for (int i = 0; i <= 5; i++) {
      add(told, x.of(i, 0), x.of(i, 1), x.of(i, 2), x.of(i, 4), x.of(i, 5), x.count(i), x.led(i));
    }
    add(told, x.of(0, 3));
  }

  private static void dust(DustInOrder x, List<Long> told) {
    for (int sill = 0; sill < 5; sill++) {
      for (int k = 0; k <= 12; k++) {
        add(told, x.layer(sill, k, 0), x.layer(sill, k, 1));
      }
    }
  }

  private static void rows(DustInOrder x, List<Long> told, int from) {
    for (int shelf = from; shelf < from + 3; shelf++) {
      for (int i = 0; i < 60; i++) {
        add(told, x.element(shelf, i));
      }
      for (int k = 0; k < 8; k++) {
        add(told, x.taken(shelf, k));
      }
      add(told, x.sills(shelf, 0, 1), x.put(shelf, 0, -1), x.element(shelf, 0), x.put(shelf, 59, 1));
    }
  }

  private static void lookings(DustInOrder x, List<Long> told) {
    for (int sill = 0; sill < 5; sill++) {
      for (int n = 0; n <= 9; n++) {
        add(told, x.lays(sill, n), x.lays(sill, 50 + n));
      }
      for (int one = 0; one <= 5; one++) {
        add(told, x.lays(sill, 60 + one));
      }
    }
    add(told, x.look(9), x.look(65), x.blow(0, 7), x.sweep(1));
    numbers(x, told);
  }

  private static void undone(DustInOrder x, List<Long> told) {
    for (int i = 0; i <= 40; i++) {
      add(told, x.undo(), x.of(0, 0), x.of(1, 0), x.count(2));
    }
    for (int i = 0; i <= 40; i++) {
      add(told, x.redo());
    }
    numbers(x, told);
  }

  private static void doneAgain(DustInOrder x, List<Long> told) {
    for (int i = 0; i <= 40; i++) {
      add(told, x.redo(), x.count(2));
    }
    numbers(x, told);
  }

  private static void laidBack(DustInOrder x, List<Long> told) {
    add(told, x.back());
    dust(x, told);
    numbers(x, told);
  }

  private static void tape(DustInOrder x, List<Long> told) {
    add(told, x.count(1), x.feed('4'), x.law(), x.count(1), x.lays(0, 5), x.lays(0, 9), x.law(), x.lays(0, 3));
  }

  private static void traced(DustInOrder x, List<Long> told) {
    for (int i = 0; i < 25; i++) {
      add(told, x.trace(i));
    }
    add(told, x.count(4), x.body(3), x.act(7, 3, 2), x.count(4), x.sill(3, 4), x.image(), x.back());
  }

  private static void thoughts(DustInOrder x, List<Long> told) {
    for (int sill = 0; sill < 3; sill++) {
      for (int what = 0; what <= 4; what++) {
        add(told, x.later(0, 40, sill, what), x.later(0, 2, sill, what), x.laid(0, 40, sill, 10 * what + 2));
      }
      for (int one = 0; one <= 5; one++) {
        add(told, x.clear(sill, one), x.touch(sill, one, 4), x.tellsOf(one), x.fewest(1 << one, 1), x.likely(one, 0));
      }
      add(told, x.breath(sill, 9, 0), x.corner(), x.ways(sill, 5), x.first(sill, 6, 2), x.least(sill), x.certain(sill, 6),
          x.alike(10 * sill + 1, -1), x.alike(10 * sill, 1), x.same(sill), x.expected(), x.judge(0, sill),
          x.drawn(5, 310, sill, -1));
    }
  }

  private static final Eye[] EYES = {
    Unchanged::numbers, Unchanged::dust, (x, told) -> rows(x, told, 0), (x, told) -> rows(x, told, 3), Unchanged::lookings,
    Unchanged::undone, Unchanged::doneAgain, Unchanged::laidBack, Unchanged::tape, Unchanged::traced, Unchanged::thoughts};

  private static void sameAs(String name, House house, Call call, long want, boolean isAny) {
    for (int i = 0; i < EYES.length; i++) {
      DustInOrder asked = house.made();
      DustInOrder other = house.made();
      long got = call.on(asked);
      if (!isAny) {
        Due.due(name, got, want);
      }
      List<Long> one = new ArrayList<>();
      List<Long> two = new ArrayList<>();
      EYES[i].look(asked, one);
      EYES[i].look(other, two);
      for (int k = 0; k < one.size(); k++) {
        Due.due(name + " changed something, eye " + i + " at " + k, one.get(k), two.get(k));
      }
    }
  }

  private static void refused(String name, House house, long want, Call... calls) {
    for (int i = 0; i < calls.length; i++) {
      sameAs(name + ", call " + i, house, calls[i], want, false);
    }
  }

  private static void onlyAsked(String name, House house, Call... calls) {
    for (int i = 0; i < calls.length; i++) {
      sameAs(name + ", call " + i, house, calls[i], 0, true);
    }
  }

  // ---- 1 to 9

  private static void sillsAndPeople() {
    House f = Unchanged::furnished;
    refused("2: sill", f, BAD, x -> x.sill(-1, 0), x -> x.sill(10, 0), x -> x.sill(0, -1), x -> x.sill(9, 10));
    refused("2: sill", Unchanged::fullHouse, FULL, x -> x.sill(0, 0), x -> x.sill(9, 9));
    refused("3: sills", f, BAD, x -> x.sills(-1, 0, 1), x -> x.sills(6, 0, 1), x -> x.sills(0, 0, 0), x -> x.sills(0, 0, 6));
    refused("3: sills", f, KIND, x -> x.sills(1, 0, 1), x -> x.sills(2, 0, 5), x -> x.sills(3, 0, 1), x -> x.sills(4, 0, 1));
    refused("3: no sills", f, 0, x -> x.sills(5, 0, 1), x -> x.sills(0, -1, 1), x -> x.sills(0, 5, 1), x -> x.sills(0, 6, 1),
        x -> x.sills(0, 1, 2), x -> x.sills(0, MAX, 5), x -> x.sills(0, MIN, 5));
    refused("3: no sills", Unchanged::fullHouse, 0, x -> x.sills(0, 0, 1), x -> x.sills(0, 0, 5));
    refused("4: mend", f, BAD, x -> x.mend(3, 0, 1), x -> x.mend(-1, 0, 1), x -> x.mend(0, 0, 10), x -> x.mend(0, 0, -1),
        x -> x.mend(3, 1, 1), x -> x.mend(0, 1, 10), x -> x.mend(0, 1, -1), x -> x.mend(6, 2, 1), x -> x.mend(-1, 2, 1),
        x -> x.mend(0, 2, 10), x -> x.mend(0, 2, -1), x -> x.mend(1, 3, 1), x -> x.mend(-1, 3, 1), x -> x.mend(0, 3, 4),
        x -> x.mend(0, 3, -1), x -> x.mend(0, 4, 0), x -> x.mend(0, 5, 1), x -> x.mend(0, -1, 1), x -> x.mend(0, MAX, 1));
    // "telling the same number is none", of those that were changed, too
    onlyAsked("4: the same", f, x -> x.mend(0, 0, x.of(0, 0)), x -> x.mend(1, 1, x.of(1, 1)), x -> x.mend(3, 2, x.of(3, 2)),
        x -> x.mend(0, 3, x.of(0, 3)), x -> x.mend(2, 0, x.of(2, 0)), x -> x.mend(5, 2, 5));
    onlyAsked("4: the same behind forty", Unchanged::fullHouse, x -> x.mend(1, 0, x.of(1, 0)), x -> x.mend(0, 3, 0));
    refused("5: of", f, BAD, x -> x.of(3, 0), x -> x.of(-1, 1), x -> x.of(6, 2), x -> x.of(1, 3), x -> x.of(3, 4), x -> x.of(0, 6));
    refused("6: layer", f, BAD, x -> x.layer(3, 0, 0), x -> x.layer(0, -1, 0), x -> x.layer(0, 0, 2), x -> x.layer(0, 0, -1));
    refused("6: layer", f, NOT, x -> x.layer(0, 12, 0), x -> x.layer(2, 1, 1), x -> x.layer(0, MAX, 1));
    refused("7: feed", f, BAD, x -> x.feed(-1), x -> x.feed(256));
    refused("7: feed", Unchanged::fullTape, FULL, x -> x.feed('1'), x -> x.feed(0), x -> x.feed(255));
    refused("7: feed", Unchanged::fullTape, BAD, x -> x.feed(256));
    refused("9: lays", f, BAD, x -> x.lays(3, 0), x -> x.lays(-1, 0), x -> x.lays(0, 66), x -> x.lays(0, -1));
    onlyAsked("1 to 9: asked", f, x -> x.of(0, 5), x -> x.layer(0, 0, 1), x -> x.lays(0, 9), x -> x.lays(1, 65));
    onlyAsked("1 to 9: asked", Unchanged::fullHouse, x -> x.of(4, 4), x -> x.layer(4, 11, 0), x -> x.lays(4, 59));
  }

  // "THE TAPE is empty then", and a text at fault changes nothing else
  private static void textsAtFault() {
    House emptied = () -> {
      DustInOrder x = furnished();
      x.feed('1');
      x.law();
      Due.law(x, "n+s-g/3");
      return x;
    };
    sameAs("8: at fault, THE LAW stays", emptied, x -> Due.law(x, "n n"), -101, false);
    sameAs("8: too early, THE LAW stays", emptied, x -> Due.law(x, "9;"), -102, false);
    sameAs("8: nothing on THE TAPE, THE LAW stays", emptied, DustInOrder::law, -100, false);
    sameAs("8: without a text", Unchanged::empty, x -> Due.law(x, "9+"), -102, false);
  }

  // ---- 10 to 17

  private static void inThought() {
    House f = Unchanged::furnished;
    refused("10: later", f, BAD, x -> x.later(6, 0, 0, 0), x -> x.later(-1, 0, 0, 0), x -> x.later(0, -1, 0, 0),
        x -> x.later(0, 41, 0, 0), x -> x.later(0, 0, 3, 0), x -> x.later(0, 0, 0, 5), x -> x.later(0, 0, 0, -1));
    refused("10: later", f, NOTHING, x -> x.later(5, 0, 0, 0), x -> x.later(5, 40, 2, 3));
    refused("10: later", f, KIND, x -> x.later(1, 0, 0, 0), x -> x.later(2, 40, 1, 3), x -> x.later(4, 0, 0, 0));
    refused("11: laid", f, BAD, x -> x.laid(6, 0, 0, 0), x -> x.laid(0, 41, 0, 0), x -> x.laid(0, 0, 3, 0),
        x -> x.laid(0, 0, 0, 3), x -> x.laid(0, 0, 0, -1));
    refused("11: laid", f, NOTHING, x -> x.laid(5, 0, 0, 0));
    refused("11: laid", f, KIND, x -> x.laid(3, 0, 0, 0), x -> x.laid(4, 0, 0, 2));
    refused("11: laid", f, NOT, x -> x.laid(0, 40, 0, 130), x -> x.laid(0, 40, 0, 62));
    refused("12: breath", f, BAD, x -> x.breath(3, 0, 0), x -> x.breath(0, -1, 0), x -> x.breath(0, 100, 0), x -> x.breath(0, 0, 2));
    refused("12: breath", f, NOT, x -> x.breath(2, 99, 0));
    refused("13: clear", f, BAD, x -> x.clear(3, 0), x -> x.clear(0, 6), x -> x.clear(0, -1));
    refused("14: touch", f, BAD, x -> x.touch(3, 0, 0), x -> x.touch(0, 6, 0), x -> x.touch(0, 0, 10), x -> x.touch(0, 0, -1));
    // another one lies on SILL 2, and by 0 it stays so
    refused("14: touch", f, NOT, x -> x.touch(2, 2, 0));
    refused("15: tellsOf", f, BAD, x -> x.tellsOf(6), x -> x.tellsOf(-1));
    refused("16: fewest", f, BAD, x -> x.fewest(64, 0), x -> x.fewest(-1, 0), x -> x.fewest(0, 3), x -> x.fewest(0, -1));
    refused("17: corner", Unchanged::empty, NOT, DustInOrder::corner);
    House[] houses = {f, Unchanged::fullHouse};
    for (House h : houses) {
      onlyAsked("10 to 17: thought", h, x -> x.later(0, 40, 0, 0), x -> x.later(0, 40, 1, 4), x -> x.laid(0, 40, 0, 112),
          x -> x.breath(0, 99, 0), x -> x.breath(0, 50, 1), x -> x.clear(0, 1), x -> x.touch(0, 5, 9), x -> x.touch(0, 5, 1),
          x -> x.tellsOf(1), x -> x.fewest(63, 0), x -> x.fewest(63, 1), x -> x.fewest(63, 2), DustInOrder::corner);
    }
  }

  // ---- 18 to 27

  private static void readBack() {
    House f = Unchanged::furnished;
    refused("18: ways", f, Due.BAD_LONG, x -> x.ways(3, 0), x -> x.ways(0, -1), x -> x.ways(0, 10));
    refused("19: first", f, BAD, x -> x.first(3, 0, 0), x -> x.first(0, -1, 0), x -> x.first(0, 10, 0), x -> x.first(0, 9, -1));
    refused("19: first", f, NOT, x -> x.first(0, 9, 9), x -> x.first(0, 1, 0), x -> x.first(0, 0, MAX));
    refused("20: least", f, BAD, x -> x.least(3), x -> x.least(-1));
    refused("20: least", Unchanged::fullHouse, NOT, x -> x.least(0), x -> x.least(4));
    refused("21: certain", f, BAD, x -> x.certain(3, 0), x -> x.certain(0, -1), x -> x.certain(0, 10));
    refused("22: alike", f, BAD, x -> x.alike(3, -1), x -> x.alike(30, -1), x -> x.alike(-1, -1), x -> x.alike(0, -2));
    refused("22: alike", f, NOT, x -> x.alike(1, 12), x -> x.alike(2, MAX));
    refused("23: same", f, BAD, x -> x.same(3), x -> x.same(30), x -> x.same(-1));
    refused("24: likely", f, Due.BAD_LONG, x -> x.likely(6, 0), x -> x.likely(-1, 0), x -> x.likely(0, 2), x -> x.likely(0, -1));
    refused("25: expected", Unchanged::empty, NOT, DustInOrder::expected);
    refused("26: judge", f, BAD, x -> x.judge(6, 0), x -> x.judge(-1, 0), x -> x.judge(0, 3));
    refused("26: judge", f, NOTHING, x -> x.judge(5, 0));
    refused("26: judge", f, KIND, x -> x.judge(1, 0), x -> x.judge(4, 0));
    refused("27: drawn", f, BAD, x -> x.drawn(1, 100, 0, -1), x -> x.drawn(1, 3041, 0, -1), x -> x.drawn(1, 3101, 0, -1),
        x -> x.drawn(1, 40, 0, -1), x -> x.drawn(1, 101, 3, -1), x -> x.drawn(1, 101, 0, -2), x -> x.drawn(1, 101, 0, 6));
    House[] houses = {f, Unchanged::fullHouse};
    for (House h : houses) {
      onlyAsked("18 to 27: read back", h, x -> x.ways(0, 9), x -> x.first(0, 9, 8), x -> x.least(1), x -> x.certain(1, 9),
          x -> x.alike(1, -1), x -> x.alike(1, 2), x -> x.same(1), x -> x.likely(0, 0), DustInOrder::expected,
          x -> x.judge(0, 0), x -> x.drawn(7, 3040, 0, -1), x -> x.drawn(7, 3040, 1, 3));
    }
  }

  // ---- 28 to 35

  private static void inDeed() {
    House f = Unchanged::furnished;
    refused("28: look", f, BAD, x -> x.look(-1), x -> x.look(66), x -> x.look(MAX), x -> x.look(MIN));
    refused("29: blow", f, BAD, x -> x.blow(3, 1), x -> x.blow(-1, 1), x -> x.blow(0, -1), x -> x.blow(0, 100));
    onlyAsked("29: by nothing", f, x -> x.blow(0, 0));
    refused("30: sweep", f, BAD, x -> x.sweep(3), x -> x.sweep(-1));
    refused("31: led", f, BAD, x -> x.led(-1), x -> x.led(5));
    refused("33: back", Unchanged::empty, STATE, DustInOrder::back);
    refused("33: back", Unchanged::fullTape, STATE, DustInOrder::back);
    refused("34: undo", Unchanged::empty, STATE, DustInOrder::undo);
    refused("34: undo", Unchanged::fullTape, STATE, DustInOrder::undo);
    House allUndone = () -> {
      DustInOrder x = furnished();
      for (int i = 0; i < 3; i++) {
        x.undo();
      }
      return x;
    };
    refused("34: undo", allUndone, STATE, DustInOrder::undo);
    refused("35: redo", Unchanged::empty, STATE, DustInOrder::redo);
    refused("35: redo", Unchanged::fullHouse, STATE, DustInOrder::redo);
    onlyAsked("34, 35: undone and done again", f, x -> x.undo() + x.redo(), x -> x.redo() + x.undo());
    onlyAsked("31: asked", f, x -> x.led(0), x -> x.led(4));
    // an image that is laid back at once lays nothing else
    House imaged = () -> {
      DustInOrder x = furnished();
      x.image();
      return x;
    };
    onlyAsked("32, 33: kept again, laid back at once", imaged, DustInOrder::image, DustInOrder::back);
  }

  // ---- 36 to 45

  private static void actsAndShelves() {
    House f = Unchanged::furnished;
    refused("36: body", f, BAD, x -> x.body(-1), x -> x.body(8));
    refused("36: body", Unchanged::fullBodies, FULL, x -> x.body(0), x -> x.body(7));
    refused("36: body", Unchanged::fullBodies, BAD, x -> x.body(8));
    // no TRACE then; nothing else
    House noTrace = () -> {
      DustInOrder x = furnished();
      x.act(-1, 0, 0);
      return x;
    };
    refused("37: act", noTrace, 0, x -> x.act(8, 0, 1), x -> x.act(-1, 0, 1), x -> x.act(0, 4, 1), x -> x.act(0, -1, 1));
    refused("38: trace", f, BAD, x -> x.trace(-1), x -> x.trace(10), x -> x.trace(24));
    refused("39: keep", f, BAD, x -> x.keep(-1, 0), x -> x.keep(6, 0), x -> x.keep(0, 8), x -> x.keep(0, -2), x -> x.keep(5, 8),
        x -> x.keep(4, 8), x -> x.keep(6, -1));
    refused("40: row", f, BAD, x -> x.row(-1, 0, 1), x -> x.row(6, 0, 1), x -> x.row(0, 5, 1), x -> x.row(0, -1, 1),
        x -> x.row(0, 0, 61), x -> x.row(4, 0, 61), x -> x.row(5, 5, -1), x -> x.row(0, 0, MAX));
    refused("40: row", f, SIZE, x -> x.row(0, 0, -1), x -> x.row(4, 4, -1), x -> x.row(5, 0, MIN));
    refused("41: put", f, BAD, x -> x.put(-1, 0, 9), x -> x.put(6, 0, 9));
    refused("41: put", f, NOTHING, x -> x.put(5, 0, 9), x -> x.put(5, -1, 9));
    refused("41: put", f, KIND, x -> x.put(4, 0, 9), x -> x.put(4, 60, 9));
    refused("41: put", f, PLACE, x -> x.put(0, 6, 9), x -> x.put(0, -1, 9), x -> x.put(1, 3, 9), x -> x.put(2, 59, 9),
        x -> x.put(3, MAX, 9), x -> x.put(3, MIN, 9));
    refused("42: element", f, Due.BAD_LONG, x -> x.element(6, 0), x -> x.element(5, 0), x -> x.element(4, 0), x -> x.element(0, 6),
        x -> x.element(0, -1));
    refused("43: shift", f, BAD, x -> x.shift(-1, 0, 0, 0, 1), x -> x.shift(0, 0, 6, 0, 1));
    refused("43: shift", f, NOTHING, x -> x.shift(5, 0, 0, 0, 1), x -> x.shift(0, 0, 5, 0, 1), x -> x.shift(4, 0, 5, 0, 1));
    refused("43: shift", f, KIND, x -> x.shift(4, 0, 0, 0, 1), x -> x.shift(0, 0, 4, 0, 1), x -> x.shift(0, 0, 1, 0, 1),
        x -> x.shift(3, 0, 2, 0, 1));
    refused("43: shift", f, PLACE, x -> x.shift(0, 0, 0, 1, 6), x -> x.shift(0, 1, 0, 0, 6), x -> x.shift(0, -1, 0, 0, 1),
        x -> x.shift(0, 0, 0, -1, 1), x -> x.shift(0, 2, 0, 0, -1), x -> x.shift(0, 0, 0, 0, 7), x -> x.shift(0, 0, 0, 6, 1),
        x -> x.shift(0, MAX, 0, 0, 1), x -> x.shift(0, 0, 0, 1, MAX));
    onlyAsked("43: none at all", f, x -> x.shift(0, 0, 0, 3, 0), x -> x.shift(0, 6, 0, 6, 0), x -> x.shift(0, 2, 0, 2, 4));
    refused("44: taken", f, BAD, x -> x.taken(-1, 0), x -> x.taken(6, 0), x -> x.taken(4, 8), x -> x.taken(4, -1));
    refused("44: taken", f, NOTHING, x -> x.taken(5, 0));
    refused("44: taken", f, KIND, x -> x.taken(0, 0), x -> x.taken(4, 1), x -> x.taken(4, 7));
    refused("45: count", f, BAD, x -> x.count(-1), x -> x.count(5));
    onlyAsked("36 to 45: asked", f, x -> x.trace(0), x -> x.element(0, 0), x -> x.taken(4, 0), x -> x.count(4));
  }

  public static void main(String[] args) {
    housesAreAsTold();
    sillsAndPeople();
    textsAtFault();
    inThought();
    readBack();
    inDeed();
    actsAndShelves();
    Due.end();
  }
}
