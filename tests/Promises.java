/** Each promise by itself: ordinary inputs, the edges that the document names, wrong inputs. */
public final class Promises {
  private static final int BAD = -1, NOT = -2, FULL = -3, STATE = -5;
  private static final int NOTHING = -11, KIND = -12, PLACE = -13, SIZE = -14;
  private static final long BAD_LONG = Long.MIN_VALUE;
  private static final int MAX = Integer.MAX_VALUE, MIN = Integer.MIN_VALUE;

  private static int wrong = 0;
  private static int asked = 0;

  private static void due(String call, long got, long want) {
    asked++;
    if (got != want) {
      wrong++;
      System.out.println(call + " answered " + got + ", due is " + want);
    }
  }

  // ---- helpers

  private static DustInOrder withSills(int... highsAndDraughts) {
    DustInOrder x = new DustInOrder();
    for (int i = 0; i < highsAndDraughts.length; i += 2) {
      x.sill(highsAndDraughts[i], highsAndDraughts[i + 1]);
    }
    return x;
  }

  private static DustInOrder oneSill(int... lookings) {
    DustInOrder x = withSills(0, 0);
    for (int looking : lookings) {
      x.look(looking);
    }
    return x;
  }

  private static void write(DustInOrder x, int shelf, int... values) {
    x.row(shelf, 0, values.length);
    for (int i = 0; i < values.length; i++) {
      x.put(shelf, i, values[i]);
    }
  }

  private static int law(DustInOrder x, String text) {
    for (int i = 0; i < text.length(); i++) {
      x.feed(text.charAt(i));
    }
    return x.law();
  }

  private static void layers(String name, DustInOrder x, int sill, int... whomAndThick) {
    due(name + ": how many", x.of(sill, 4), whomAndThick.length / 2);
    for (int k = 0; k < whomAndThick.length / 2; k++) {
      due(name + ": whom " + k, x.layer(sill, k, 0), whomAndThick[2 * k]);
      due(name + ": thick " + k, x.layer(sill, k, 1), whomAndThick[2 * k + 1]);
    }
    due(name + ": above", x.layer(sill, whomAndThick.length / 2, 0), NOT);
  }

  // ---- 1 to 8: sills, people

  private static void newObject() {
    DustInOrder x = new DustInOrder();
    for (int what = 0; what <= 4; what++) {
      due("1: count(" + what + ")", x.count(what), 0);
      due("1: led(" + what + ")", x.led(what), 0);
    }
    for (int one = 0; one <= 5; one++) {
      due("1: of(" + one + ", 2)", x.of(one, 2), 5);
    }
    due("1: of(0, 3)", x.of(0, 3), 0);
    due("1: of(0, 0)", x.of(0, 0), BAD);
    due("1: corner()", x.corner(), NOT);
    due("1: undo()", x.undo(), STATE);
    due("1: redo()", x.redo(), STATE);
    due("1: back()", x.back(), STATE);
    for (int shelf = 0; shelf <= 5; shelf++) {
      due("1: taken(" + shelf + ", 0)", x.taken(shelf, 0), NOTHING);
    }
    due("1: VOID", DustInOrder.VOID, -2000000000);
  }

  private static void sill() {
    DustInOrder x = new DustInOrder();
    for (int[] bad : new int[][] {{-1, 0}, {10, 0}, {0, -1}, {0, 10}, {MIN, MIN}, {MAX, MAX}}) {
      due("2: bad", x.sill(bad[0], bad[1]), BAD);
    }
    due("2: none came", x.count(0), 0);
    for (int i = 0; i < 5; i++) {
      due("2: number", x.sill(i, 9 - i), i);
      due("2: high", x.of(i, 0), i);
      due("2: draught", x.of(i, 1), 9 - i);
      due("2: bare", x.of(i, 4), 0);
    }
    due("2: full", x.sill(0, 0), FULL);
    due("2: bad ahead of full", x.sill(10, 0), BAD);
    due("2: still five", x.count(0), 5);
  }

  private static void sills() {
    DustInOrder x = new DustInOrder();
    due("3: missing row", x.sills(0, 0, 1), 0);
    write(x, 0, 1, 2, 3, 4, 5);
    for (int[] bad : new int[][] {{-1, 0, 1}, {6, 0, 1}, {0, 0, 0}, {0, 0, 6}, {0, 0, -1}, {MAX, 0, 1}, {0, 0, MAX}}) {
      due("3: bad", x.sills(bad[0], bad[1], bad[2]), BAD);
    }
    due("3: i below 0", x.sills(0, -1, 1), 0);
    due("3: i far below 0", x.sills(0, MIN, 5), 0);
    due("3: i behind the end", x.sills(0, 5, 1), 0);
    due("3: i far behind the end", x.sills(0, MAX, 5), 0);
    due("3: ends within a two", x.sills(0, 4, 1), 0);
    due("3: two and a half", x.sills(0, 0, 5), 2);
    due("3: second high", x.of(1, 0), 3);
    due("3: second draught", x.of(1, 1), 4);
    write(x, 1, 0, 0, 1, 10, 2, 2);
    due("3: one is not as it may be", x.sills(1, 0, 3), 1);
    due("3: a high below 0", putThenSills(x, -1), 0);
    due("3: only n", x.sills(1, 4, 1), 1);
    write(x, 1, 7, 7, 8, 8);
    due("3: full behind the first", x.sills(1, 0, 2), 1);
    due("3: which", x.of(4, 0), 7);
    due("3: full at once", x.sills(1, 0, 2), 0);
    x.row(2, 2, 4);
    due("3: a row of ints", x.sills(2, 0, 1), KIND);
    due("3: a row of ints, i below 0", x.sills(2, -1, 1), KIND);
    x.body(0);
    x.keep(2, 0);
    due("3: a body", x.sills(2, 0, 1), KIND);
    due("3: bad ahead of the kind", x.sills(2, 0, 6), BAD);
  }

  private static int putThenSills(DustInOrder x, int high) {
    write(x, 2, high, 0);
    return x.sills(2, 0, 1);
  }

  private static void mend() {
    DustInOrder x = withSills(3, 4, 1, 1);
    due("4: high", x.mend(0, 0, 9), 3);
    due("4: high now", x.of(0, 0), 9);
    due("4: draught", x.mend(0, 1, 0), 4);
    due("4: draught now", x.of(0, 1), 0);
    due("4: the other", x.of(1, 0) * 10 + x.of(1, 1), 11);
    due("4: miss", x.mend(5, 2, 0), 5);
    due("4: miss now", x.of(5, 2), 0);
    due("4: season", x.mend(0, 3, 3), 0);
    due("4: season now", x.of(0, 3), 3);
    due("4: four changes", x.count(2), 4);
    due("4: the same again", x.mend(0, 3, 3), 3);
    due("4: is none", x.count(2), 4);
    int[][] bads = {{2, 0, 1}, {-1, 0, 1}, {0, 0, 10}, {0, 0, -1}, {2, 1, 1}, {0, 1, 10}, {6, 2, 1}, {-1, 2, 1},
      {0, 2, 10}, {0, 2, -1}, {1, 3, 1}, {-1, 3, 1}, {0, 3, 4}, {0, 3, -1}, {0, 4, 1}, {0, -1, 1}, {0, 5, 1},
      {MAX, MAX, MAX}, {MIN, MIN, MIN}};
    for (int[] bad : bads) {
      due("4: bad " + bad[0] + " " + bad[1] + " " + bad[2], x.mend(bad[0], bad[1], bad[2]), BAD);
    }
    due("4: bad ones are none", x.count(2), 4);
    due("4: by draught", x.lays(1, 9), 9);
    x.mend(1, 1, 9);
    due("4: by draught at once", x.lays(1, 9), 6);
    law(x, "h+s");
    due("4: by high and season", x.lays(1, 9), 4);
    x.mend(1, 0, 5);
    due("4: by high at once", x.lays(1, 9), 8);
    x.mend(0, 3, 1);
    due("4: by season at once", x.lays(1, 9), 6);
  }

  private static void of() {
    DustInOrder x = oneSill(9, 17, 25);
    due("5: layers", x.of(0, 4), 3);
    due("5: thick", x.of(0, 5), 21);
    int[][] bads = {{1, 0}, {1, 1}, {1, 4}, {1, 5}, {-1, 4}, {6, 2}, {-1, 2}, {1, 3}, {0, 6}, {0, -1}, {MAX, 0}, {0, MIN}};
    for (int[] bad : bads) {
      due("5: bad " + bad[0] + " " + bad[1], x.of(bad[0], bad[1]), BAD);
    }
  }

  private static void layer() {
    DustInOrder x = oneSill(9, 17, 25);
    layers("6", x, 0, 0, 9, 1, 7, 2, 5);
    due("6: far above", x.layer(0, MAX, 1), NOT);
    due("6: k 12", x.layer(0, 12, 1), NOT);
    int[][] bads = {{1, 0, 0}, {-1, 0, 0}, {0, -1, 0}, {0, MIN, 1}, {0, 0, 2}, {0, 0, -1}, {1, 5, 0}};
    for (int[] bad : bads) {
      due("6: bad " + bad[0] + " " + bad[1] + " " + bad[2], x.layer(bad[0], bad[1], bad[2]), BAD);
    }
    due("6: bad ahead of not", x.layer(0, 5, 2), BAD);
  }

  private static void feed() {
    DustInOrder x = new DustInOrder();
    for (int bad : new int[] {-1, 256, MAX, MIN}) {
      due("7: bad " + bad, x.feed(bad), BAD);
    }
    due("7: lowest", x.feed(0), 1);
    due("7: highest", x.feed(255), 2);
    for (int i = 3; i <= 120; i++) {
      due("7: many", x.feed('1'), i);
    }
    due("7: full", x.feed('1'), FULL);
    due("7: bad ahead of full", x.feed(256), BAD);
    due("7: count", x.count(1), 120);
    due("7: the first byte is no text", x.law(), -100);
    due("7: empty then", x.count(1), 0);
    due("7: begins anew", x.feed('1'), 1);
  }

  private static void fault(String text, int fault) {
    DustInOrder x = withSills(0, 0);
    due("8: " + text, law(x, text), -100 - fault);
    due("8: " + text + ": empty then", x.count(1), 0);
    due("8: " + text + ": the law is as before", x.lays(0, 7), 7);
  }

  private static void faults() {
    fault("", 0);
    fault(" ", 0);
    fault("1 ", 1);
    fault("n+", 2);
    fault("n+;", 2);
    fault(";n", 0);
    fault("n;", 2);
    fault("n;;n", 2);
    fault("12345", 4);
    fault("12n", 2);
    fault("nn", 1);
    fault("n1", 1);
    fault("x", 0);
    fault("N", 0);
    fault("1<2<3", 3);
    fault("1=2>3", 3);
    fault("1<2=(3)", 3);
    fault("1<=2", 2);
    fault("1?2?3", 3);
    fault("?1", 0);
    fault("1?", 2);
    fault("(1?2)", 2);
    fault("(1;2)", 2);
    fault("(1", 2);
    fault("(", 1);
    fault("()", 1);
    fault("1)", 1);
    fault("((1)", 4);
    fault("+1", 0);
    fault("1++1", 2);
    fault("1**1", 2);
    fault("1!", 1);
    fault("1!2", 1);
    fault("1(", 1);
    fault("!", 1);
    fault("-", 1);
    fault("n||n", 2);
    fault("n&&n", 2);
    fault("(((((((1)))))))", 6);
    fault("!!!!!!!1", 6);
    fault("-------1", 6);
    fault("(!-(!-(1", 6);
    fault("1+((((((-1))))))", 8);
    fault("!!!!!!((1))", 6);
    fault("1\u00e9", 1);
    fault("1\n", 1);
  }

  private static void value(String text, int looking, int want) {
    // HIGH 3, DRAUGHT 4, SEASON 2, one LAYER of 5
    DustInOrder x = withSills(3, 4);
    law(x, "1");
    x.look(50);
    x.mend(0, 3, 2);
    due("8: " + text + " is a text", law(x, text), 1);
    due("8: " + text + " of " + looking, x.lays(0, looking), want);
  }

  private static void laws() {
    value("7", 0, 7);
    value("0007", 0, 7);
    value("9999", 0, 9);
    value("0-9999", 0, 0);
    value("-3", 0, 0);
    value("10-3", 0, 7);
    value("n", 24, 4);
    value("w", 24, 2);
    value("h", 24, 3);
    value("g", 24, 4);
    value("s", 24, 2);
    value("k", 24, 1);
    value("n", 63, 5);
    value("w", 63, 3);
    value("2+2*3", 0, 8);
    value("(1+1)*3", 0, 6);
    value("9-3-2", 0, 4);
    value("9-(3-2)", 0, 8);
    value("48/4/3", 0, 4);
    value("17%10%4", 0, 3);
    value("7/0+3", 0, 3);
    value("7%0+4", 0, 4);
    value("9+-7/2", 0, 6);
    value("9+-7%4", 0, 6);
    value("9+(7/-2)", 0, 6);
    value("9+7%-4", 0, 9);
    value("5-(-7%4)", 0, 8);
    value("(1<2)+(2<1)+(1<1)", 0, 1);
    value("(1=1)+(1=2)", 0, 1);
    value("(2>1)+(1>2)+(1>1)", 0, 1);
    value("1+1=2", 0, 1);
    value("2<1+3", 0, 1);
    value("(1<2)<3", 0, 1);
    value("(0|0)+(0|5)*2+(7|0)*4", 0, 6);
    value("(1&0)+(3&5)*2+(0&1)*4", 0, 2);
    value("0&0|1", 0, 1);
    value("1|0&0", 0, 1);
    value("1=1&2=2", 0, 1);
    value("1|1=2", 0, 1);
    value("!0+!5*7", 0, 1);
    value("!!5", 0, 1);
    value("-!0+5", 0, 4);
    value("--5", 0, 5);
    value("5--2", 0, 7);
    value("!-5", 0, 0);
    value("-2*-3", 0, 6);
    value("((((((4))))))", 0, 4);
    value("!!!!!!4", 0, 1);
    value("------4", 0, 4);
    value("(!-(!-1))", 0, 1);
    value("((1))+((1))+((((((1))))))", 0, 3);
    value("-1+-1+-1+-1+-1+-1+-1+9", 0, 2);
    value("9999*9999*9999*9999", 0, 9999 * 9999 * 9999 * 9999 > 0 ? 9 : 0);
    value("9999*9999*30<0", 0, 9999 * 9999 * 30 < 0 ? 1 : 0);
    value("(9999*9999*22-9999)/1000%1000%10+9", 0,
        Math.max(0, Math.min(9, (9999 * 9999 * 22 - 9999) / 1000 % 1000 % 10 + 9)));
    value("n>3?1;2", 24, 1);
    value("n>3?1;2", 23, 2);
    value("0?1", 0, 0);
    value("0?1;0?2", 0, 0);
    value("0?1;5;6", 0, 5);
    value("1?0;7", 0, 0);
    value("-1?4;7", 0, 4);
    value("k=1?8;3", 0, 8);
    value("w=0?1;w=1?2;w=2?3;4", 21, 3);
    value("w=0?1;w=1?2;w=2?3;4", 51, 4);
    value("1/0?3;4", 0, 4);
    StringBuilder most = new StringBuilder("n");
    while (most.length() < 119) {
      most.append("+0");
    }
    value(most.toString(), 4, 4);
    StringBuilder lines = new StringBuilder("3");
    while (lines.length() < 119) {
      lines.append(";1");
    }
    value(lines.toString(), 4, 3);
    DustInOrder x = withSills(0, 0);
    law(x, "1");
    due("8: the latest text counts", law(x, "2"), 1);
    due("8: now 2", x.lays(0, 9), 2);
    law(x, "(");
    due("8: still 2", x.lays(0, 9), 2);
    due("8: no change", x.count(2), 0);
  }

  private static void lays() {
    DustInOrder x = withSills(0, 0, 0, 2, 0, 3, 0, 8, 0, 9);
    int[] want = {9, 9, 8, 7, 6};
    for (int i = 0; i < 5; i++) {
      due("9: of 9 on " + i, x.lays(i, 59), want[i]);
    }
    due("9: 0 at least", x.lays(4, 2), 0);
    for (int one = 0; one <= 5; one++) {
      x.mend(one, 2, 9 - one);
      due("9: by miss " + one, x.lays(0, 60 + one), 9 - one);
    }
    due("9: nothing is laid", x.of(0, 4), 0);
    int[][] bads = {{5, 0}, {-1, 0}, {0, -1}, {0, 66}, {MAX, MAX}, {MIN, MIN}};
    for (int[] bad : bads) {
      due("9: bad " + bad[0] + " " + bad[1], x.lays(bad[0], bad[1]), BAD);
    }
  }

  // ---- 10 to 17: days in thought

  private static void books() {
    DustInOrder x = oneSill(14);
    write(x, 0, 22, 10, 33, 60, 99, 45);
    for (int what = 0; what <= 4; what++) {
      int[] want = {4, 14, 15, 0, 1};
      due("10: all of it " + what, x.later(0, 40, 0, what), want[what]);
    }
    due("10: none of it", x.later(0, 0, 0, 1), 4);
    due("10: the first", x.later(0, 1, 0, 1), 6);
    due("10: bare of the first two", x.later(0, 2, 0, 4), 1);
    due("10: bare of the first", x.later(0, 1, 0, 4), 0);
    due("10: like ones, the least", x.later(0, 2, 0, 3), 1);
    x.mend(0, 2, 0);
    due("10: by miss", x.later(0, 6, 0, 4), 2);
    write(x, 1, 66, 22);
    due("10: 66 is none", x.later(1, 2, 0, 0), 1);
    write(x, 1, -1, 22);
    due("10: below 0 is none", x.later(1, 2, 0, 0), 1);
    write(x, 1, 65, 22);
    due("10: 65 is one", x.later(1, 2, 0, 2), 38);
    x.row(2, 0, 60);
    for (int i = 0; i < 60; i++) {
      x.put(2, i, i < 40 ? 1 : 22);
    }
    due("10: 40 at most", x.later(2, 40, 0, 1), 44);
    due("10: nothing is laid", x.of(0, 5), 4);
    due("10: led is as it was", x.led(0), 1);
    DustInOrder bare = withSills(0, 9);
    write(bare, 0, 1, 12, 23, 34);
    due("10: draughty, bare", bare.later(0, 4, 0, 4), 3);
    due("10: draughty", bare.later(0, 4, 0, 2), 8);
    due("10: nothing lies", bare.later(0, 3, 0, 3), NOT);
    due("10: nobody is read", bare.later(0, 3, 0, 2), 0);
    x.row(3, 2, 3);
    due("10: a row of ints", x.later(3, 1, 0, 0), KIND);
    due("10: nothing there", x.later(4, 1, 0, 0), NOTHING);
    due("10: nothing there, not", bare.later(4, 0, 0, 3), NOTHING);
    x.body(0);
    x.keep(3, 0);
    due("10: a body", x.later(3, 1, 0, 0), KIND);
    int[][] bads = {{6, 0, 0, 0}, {-1, 0, 0, 0}, {0, -1, 0, 0}, {0, 41, 0, 0}, {0, 0, 1, 0}, {0, 0, -1, 0},
      {0, 0, 0, -1}, {0, 0, 0, 5}, {4, 41, 0, 0}, {3, 0, 1, 0}, {MAX, MAX, MAX, MAX}};
    for (int[] bad : bads) {
      due("10: bad", x.later(bad[0], bad[1], bad[2], bad[3]), BAD);
      due("11: bad", x.laid(bad[0], bad[1], bad[2], bad[3] == 5 ? 3 : bad[3]), BAD);
    }
  }

  private static void laid() {
    DustInOrder x = oneSill(9);
    write(x, 0, 15, 3, 22, 11);
    int[] whom = {0, 1, 0, 2, 1};
    int[] thick = {9, 5, 3, 2, 1};
    for (int k = 0; k < 5; k++) {
      due("11: whom " + k, x.laid(0, 4, 0, 10 * k), whom[k]);
      due("11: thick " + k, x.laid(0, 4, 0, 10 * k + 1), thick[k]);
    }
    due("11: above", x.laid(0, 4, 0, 50), NOT);
    due("11: above, thick", x.laid(0, 4, 0, 51), NOT);
    due("11: last looked for", x.laid(0, 4, 0, 2), 1);
    due("11: ahead of him", x.laid(0, 4, 0, 12), 2);
    due("11: ahead of them", x.laid(0, 4, 0, 22), 0);
    due("11: no more unlike ones", x.laid(0, 4, 0, 32), NOT);
    due("11: far", x.laid(0, 4, 0, 2147483642), NOT);
    due("11: far, whom", x.laid(0, 4, 0, 2147483640), NOT);
    due("11: bad what", x.laid(0, 4, 0, MAX), BAD);
    due("11: bad what 3", x.laid(0, 4, 0, 13), BAD);
    due("11: bad kw", x.laid(0, 4, 0, -10), BAD);
    due("11: bad kw least", x.laid(0, 4, 0, MIN), BAD);
    x.row(1, 4, 3);
    due("11: a row of booleans", x.laid(1, 0, 0, 0), KIND);
    due("11: nothing there", x.laid(2, 0, 0, 990), NOTHING);
    layers("11: nothing is laid", x, 0, 0, 9);
  }

  private static void breath() {
    DustInOrder x = oneSill(9, 15, 3);
    int[][] want = {{0, 0, 3}, {2, 0, 3}, {3, 1, 2}, {4, 1, 2}, {8, 0, 1}, {16, 0, 1}, {17, NOT, 0}, {99, NOT, 0}};
    for (int[] w : want) {
      due("12: whom behind " + w[0], x.breath(0, w[0], 0), w[1]);
      due("12: layers behind " + w[0], x.breath(0, w[0], 1), w[2]);
    }
    layers("12: nothing is taken", x, 0, 0, 9, 1, 5, 0, 3);
    int[][] bads = {{1, 0, 0}, {-1, 0, 0}, {0, -1, 0}, {0, 100, 0}, {0, 0, 2}, {0, 0, -1}, {MIN, MAX, 0}};
    for (int[] bad : bads) {
      due("12: bad", x.breath(bad[0], bad[1], bad[2]), BAD);
    }
  }

  private static void clear() {
    DustInOrder x = oneSill(9, 15, 3, 24);
    due("13: from his lowest", x.clear(0, 0), 21);
    due("13: one", x.clear(0, 1), 12);
    due("13: uppermost", x.clear(0, 2), 4);
    due("13: not read", x.clear(0, 3), 0);
    for (int i = 0; i < 12; i++) {
      x.look(9);
    }
    x.look(39);
    due("13: above 99", x.clear(0, 0), 129);
    for (int[] bad : new int[][] {{1, 0}, {-1, 0}, {0, -1}, {0, 6}, {MAX, MIN}}) {
      due("13: bad", x.clear(bad[0], bad[1]), BAD);
    }
  }

  private static void touch() {
    DustInOrder x = oneSill(15);
    due("14: most already", x.touch(0, 1, 0), 0);
    due("14: of like ones the least", x.touch(0, 0, 5), 1);
    due("14: the greater needs more", x.touch(0, 2, 5), 2);
    due("14: by nothing", x.touch(0, 2, 0), NOT);
    due("14: nothing is laid", x.of(0, 5), 5);
    DustInOrder far = withSills(0, 0);
    for (int i = 0; i < 7; i++) {
      far.look(9);
    }
    due("14: 63 of 1 need 64", far.touch(0, 1, 1), NOT);
    far.blow(0, 3);
    due("14: 60 of 1 need 61", far.touch(0, 1, 1), NOT);
    far.blow(0, 1);
    due("14: 59 of 1 need 60", far.touch(0, 1, 1), 60);
    DustInOrder thick = withSills(0, 0);
    for (int i = 0; i < 11; i++) {
      thick.look(19);
    }
    due("14: 99 at most, not the least", thick.touch(0, 2, 9), NOT);
    due("14: 99 at most, the least", thick.touch(0, 0, 9), 11);
    int[][] bads = {{1, 0, 0}, {-1, 0, 0}, {0, 6, 0}, {0, -1, 0}, {0, 0, -1}, {0, 0, 10}, {MAX, MAX, MAX}};
    for (int[] bad : bads) {
      due("14: bad", x.touch(bad[0], bad[1], bad[2]), BAD);
    }
  }

  /** Three SILLS: 0 reads 0 and 1, 1 reads 1 and 2, 2 reads 2 and 3. */
  private static DustInOrder threeTellers() {
    DustInOrder x = withSills(0, 0, 1, 0, 2, 0);
    law(x, "w=h|w=h+1");
    for (int one = 0; one <= 5; one++) {
      x.look(10 * one);
    }
    return x;
  }

  private static void tellers() {
    DustInOrder x = threeTellers();
    int[] want = {1, 3, 6, 4, 0, 0};
    for (int one = 0; one <= 5; one++) {
      due("15: " + one, x.tellsOf(one), want[one]);
    }
    for (int bad : new int[] {-1, 6, MAX, MIN}) {
      due("15: bad", x.tellsOf(bad), BAD);
    }
    int[][] sets = {{0, 0, 0, 0}, {1, 1, 1, 1}, {2, 1, 1, 3}, {4, 1, 2, 6}, {6, 1, 2, 7}, {5, 2, 3, 7}, {9, 2, 5, 5},
      {15, 2, 5, 7}, {10, 2, 5, 7}, {16, NOT, NOT, 0}, {17, NOT, NOT, 1}, {63, NOT, NOT, 7}};
    for (int[] s : sets) {
      due("16: how many of " + s[0], x.fewest(s[0], 0), s[1]);
      due("16: which of " + s[0], x.fewest(s[0], 1), s[2]);
      due("16: hide of " + s[0], x.fewest(s[0], 2), s[3]);
    }
    for (int[] bad : new int[][] {{-1, 0}, {64, 0}, {0, -1}, {0, 3}, {MAX, 2}, {MIN, MIN}}) {
      due("16: bad", x.fewest(bad[0], bad[1]), BAD);
    }
    due("17: like ones, the least", x.corner(), 0);
    x.sweep(0);
    due("17: the next", x.corner(), 1);
    law(x, "h=2");
    x.look(50);
    due("17: most unlike", x.corner(), 2);
    DustInOrder twice = withSills(0, 0, 1, 0);
    law(twice, "h=0&w<2|h=1&w<3&w>0|h=1&k=0");
    for (int looking : new int[] {0, 10, 0, 10, 0}) {
      twice.look(looking);
    }
    due("17: unlike ones, not layers", twice.of(0, 4), 5);
    twice.look(20);
    due("17: three unlike against two", twice.corner(), 1);
    DustInOrder bare = withSills(1, 1, 2, 2);
    due("17: all bare", bare.corner(), 0);
    due("17: no sills", new DustInOrder().corner(), NOT);
  }

  // ---- 18 to 27: days read back

  private static void days() {
    DustInOrder x = oneSill(11, 22);
    due("18: two", x.ways(0, 2), 1);
    // one of the three lays nothing (6 ways each), or 2's two grains come by ones
    due("18: three", x.ways(0, 3), 3 * 6 + 1);
    due("18: one", x.ways(0, 1), 0);
    due("18: none", x.ways(0, 0), 0);
    due("20: least", x.least(0), 2);
    due("19: 0", x.first(0, 2, 0), 11);
    due("19: 1", x.first(0, 2, 1), 22);
    due("19: 2", x.first(0, 2, 2), NOT);
    due("19: far", x.first(0, 2, MAX), NOT);
    due("19: no way", x.first(0, 1, 0), NOT);
    due("19: of three, 0", x.first(0, 3, 0), 0);
    due("19: of three, 1", x.first(0, 3, 1), 11);
    due("19: of three, 2", x.first(0, 3, 2), 22);
    due("21: of two", x.certain(0, 2), 6);
    due("21: of three", x.certain(0, 3), 6);
    due("21: of one", x.certain(0, 1), 0);
    for (int n : new int[] {-1, 10, MAX, MIN}) {
      due("18: bad n", x.ways(0, n), BAD_LONG);
      due("19: bad n", x.first(0, n, 0), BAD);
      due("21: bad n", x.certain(0, n), BAD);
    }
    for (int sill : new int[] {-1, 1, 5, MAX, MIN}) {
      due("18: bad sill", x.ways(sill, 0), BAD_LONG);
      due("19: bad sill", x.first(sill, 0, 0), BAD);
      due("20: bad sill", x.least(sill), BAD);
      due("21: bad sill", x.certain(sill, 0), BAD);
    }
    due("19: bad k", x.first(0, 2, -1), BAD);
    due("19: bad k least", x.first(0, 2, MIN), BAD);
    layers("18: nothing is laid", x, 0, 1, 1, 2, 2);
    // only LOOKINGS for 3 lay nothing, but 2's two grains may come by ones, too
    law(x, "w=3?0;n>0?n;1");
    due("21: it goes without 3", x.certain(0, 3), 6);
    x.blow(0, 1);
    due("21: every way has one that lays nothing", x.certain(0, 3), 14);
    law(x, "w=3?0;n");
    due("21: others lay nothing, too", x.certain(0, 3), 6);
    x.look(21);
    law(x, "5-k");
    due("18: by how many lie", x.ways(0, 2), 0);
    DustInOrder byK = withSills(0, 0);
    law(byK, "k+1");
    byK.look(0);
    byK.look(10);
    // 1 on bare, 2 on one layer
    layers("18: by k", byK, 0, 0, 1, 1, 2);
    due("18: ways by k", byK.ways(0, 2), 100);
    due("19: first by k, 0", byK.first(0, 2, 0), 0);
    due("19: first by k, 1", byK.first(0, 2, 1), 10);
    due("20: least by k", byK.least(0), 2);
    DustInOrder bare = withSills(0, 0);
    due("18: bare, none", bare.ways(0, 0), 1);
    due("18: bare, nine", bare.ways(0, 9), 10077696L);
    due("20: bare", bare.least(0), 0);
    due("19: bare, none", bare.first(0, 0, 0), NOT);
    law(bare, "0");
    due("18: all lay nothing", bare.ways(0, 9), 10077696000000000L);
    due("21: nobody is certain", bare.certain(0, 9), 0);
    law(bare, "w<5");
    due("18: one lays nothing", bare.ways(0, 9), 1000000000L);
    due("21: he is certain", bare.certain(0, 9), 32);
    due("21: not of none", bare.certain(0, 0), 0);
    due("19: he is the first", bare.first(0, 9, 8), 50);
  }

  private static void longDays() {
    DustInOrder x = withSills(0, 0);
    for (int i = 0; i < 9; i++) {
      x.look(10 * (i % 2) + 9);
    }
    due("18: nine layers of 9", x.ways(0, 9), 1);
    due("20: nine", x.least(0), 9);
    due("18: eight", x.ways(0, 8), 0);
    for (int k = 0; k < 9; k++) {
      due("19: of nine", x.first(0, 9, k), 10 * (k % 2) + 9);
    }
    x.look(10);
    x.look(11);
    due("18: ten layers", x.ways(0, 9), 0);
    due("20: ten layers", x.least(0), NOT);
    due("21: ten layers", x.certain(0, 9), 0);
    DustInOrder one = withSills(0, 0);
    for (int i = 0; i < 9; i++) {
      one.look(9);
    }
    due("18: 81 of one", one.ways(0, 9), 1);
    one.look(1);
    due("18: 82 of one", one.ways(0, 9), 0);
    due("20: 82 of one", one.least(0), NOT);
    // pressed: two of the same one, one above the other, come by no way of nine
    DustInOrder pressed = withSills(0, 0);
    for (int i = 0; i < 12; i++) {
      pressed.look(10 * (i % 2) + 1);
    }
    pressed.look(21);
    layers("28: pressed", pressed, 0, 0, 2, 0, 1, 1, 1, 0, 1, 1, 1, 0, 1, 1, 1, 0, 1, 1, 1, 0, 1, 1, 1, 2, 1);
    pressed.blow(0, 10);
    layers("29: what is left", pressed, 0, 0, 2, 0, 1);
    due("18: pressed", pressed.ways(0, 9), 0);
    due("20: pressed", pressed.least(0), NOT);
  }

  private static void alike() {
    DustInOrder x = withSills(0, 0, 1, 0, 2, 0);
    // 0: 1 2 3 1; 1: 2 1 3 2 1; 2: bare
    law(x, "h=0");
    for (int looking : new int[] {10, 20, 30, 10}) {
      x.look(looking);
    }
    law(x, "h=1");
    for (int looking : new int[] {20, 10, 30, 20, 10}) {
      x.look(looking);
    }
    due("22: how many", x.alike(1, -1), 3);
    due("22: the other way", x.alike(10, -1), 3);
    // 1 2 1, 1 3 1, 2 3 1 are the longest
    int[] want = {1, 2, 1};
    for (int k = 0; k < 3; k++) {
      due("22: whom " + k, x.alike(1, k), want[k]);
      due("22: whom, the other way " + k, x.alike(10, k), want[k]);
    }
    due("22: not", x.alike(1, 3), NOT);
    due("22: far", x.alike(1, MAX), NOT);
    due("22: own", x.alike(11, -1), 5);
    due("22: own, 2", x.alike(11, 2), 3);
    due("22: bare", x.alike(2, -1), 0);
    due("22: bare, 0", x.alike(2, 0), NOT);
    for (int ab : new int[] {-1, -10, 3, 30, 33, 100, 99, MAX, MIN}) {
      due("22: bad " + ab, x.alike(ab, -1), BAD);
      due("23: bad " + ab, x.same(ab), BAD);
    }
    due("22: bad k", x.alike(1, -2), BAD);
    due("22: bad k least", x.alike(1, MIN), BAD);
    due("23: not the same", x.same(1), 0);
    due("23: itself", x.same(11), 1);
    due("23: bare and not", x.same(2), 0);
    DustInOrder y = withSills(0, 0, 0, 9);
    y.look(9);
    y.look(19);
    due("23: however thick", y.same(1), 1);
    y.look(3);
    due("23: one more", y.same(1), 0);
    due("23: one more, the other way", y.same(10), 0);
    DustInOrder z = withSills(0, 0, 1, 0);
    law(z, "w=h|w=2");
    z.look(0);
    z.look(10);
    z.look(20);
    due("23: as many, unlike", z.same(1), 0);
  }

  private static void likely() {
    DustInOrder x = withSills(0, 0, 0, 9);
    x.look(4);
    x.look(15);
    // SILL 0: 0 (4) under 1 (5): 4 * 12, 5 * 13; SILL 1: 0 (1) under 1 (2): 12, 26
    due("24: 0 above", x.likely(0, 0), 60);
    due("24: 0 below", x.likely(0, 1), 151);
    due("24: 1 above", x.likely(1, 0), 91);
    due("24: 1 below", x.likely(1, 1), 151);
    due("24: nobody above", x.likely(2, 0), 0);
    due("24: nobody below", x.likely(2, 1), 1);
    due("25: expected", x.expected(), 1);
    x.sweep(1);
    x.sweep(0);
    x.look(9);
    x.sweep(1);
    due("24: sure above", x.likely(0, 0), 1);
    due("24: sure below", x.likely(0, 1), 1);
    DustInOrder y = oneSill(3, 16);
    // 3 * 12 = 36, 6 * 13 = 78: of 114
    due("24: lowest terms above", y.likely(0, 0), 6);
    due("24: lowest terms below", y.likely(0, 1), 19);
    DustInOrder z = withSills(0, 0, 1, 0);
    law(z, "w=h+3");
    z.look(40);
    z.look(30);
    due("25: like ones, the least", z.expected(), 3);
    due("24: a half above", z.likely(4, 0), 1);
    due("24: a half below", z.likely(4, 1), 2);
    due("25: nothing lies", withSills(0, 0).expected(), NOT);
    due("24: nothing lies, above", withSills(0, 0).likely(5, 0), 0);
    due("24: nothing lies, below", withSills(0, 0).likely(5, 1), 1);
    for (int[] bad : new int[][] {{-1, 0}, {6, 0}, {0, -1}, {0, 2}, {MAX, MAX}, {MIN, MIN}}) {
      due("24: bad", x.likely(bad[0], bad[1]), BAD_LONG);
    }
  }

  private static void judge() {
    DustInOrder x = oneSill(11, 22, 33);
    write(x, 0, 1, 2, 3);
    due("26: all so", x.judge(0, 0), NOT);
    write(x, 0, 1, 2, 3, 0);
    due("26: more", x.judge(0, 0), 3);
    write(x, 0, 1, 2);
    due("26: fewer", x.judge(0, 0), 2);
    write(x, 0);
    due("26: none told", x.judge(0, 0), 0);
    write(x, 0, 1, 0, 3);
    due("26: one is not so", x.judge(0, 0), 1);
    write(x, 0, 0, 2);
    due("26: the first", x.judge(0, 0), 0);
    write(x, 0, -1);
    due("26: nobody", x.judge(0, 0), 0);
    due("26: nothing there", x.judge(1, 0), NOTHING);
    x.row(1, 3, 0);
    due("26: a row of longs", x.judge(1, 0), KIND);
    x.body(1);
    x.keep(1, 0);
    due("26: a body", x.judge(1, 0), KIND);
    for (int[] bad : new int[][] {{-1, 0}, {6, 0}, {0, 1}, {0, -1}, {1, 1}, {MAX, MAX}, {MIN, MIN}}) {
      due("26: bad", x.judge(bad[0], bad[1]), BAD);
    }
  }

  private static void drawn() {
    DustInOrder x = oneSill(9, 15);
    for (int seed : new int[] {0, 1, -1, 77, MAX, MIN}) {
      int[] uppermost = new int[6];
      int layers = 0;
      int z = seed;
      for (int year = 0; year < 30; year++) {
        DustInOrder y = oneSill(9, 15);
        for (int i = 0; i < 13; i++) {
          z = z * 1103515245 + 12345;
          y.look(10 * ((z >>> 8) % 6) + (z >>> 16) % 10);
        }
        layers += y.of(0, 4);
        uppermost[y.layer(0, y.of(0, 4) - 1, 0)]++;
      }
      due("27: layers by " + seed, x.drawn(seed, 3013, 0, -1), layers);
      for (int one = 0; one <= 5; one++) {
        due("27: uppermost by " + seed, x.drawn(seed, 3013, 0, one), uppermost[one]);
      }
    }
    layers("27: nothing is laid", x, 0, 0, 9, 1, 5);
    due("27: least", x.drawn(0, 101, 0, -1), 2);
    DustInOrder nothing = withSills(0, 0);
    law(nothing, "0");
    due("27: none is uppermost", nothing.drawn(5, 3040, 0, 0), 0);
    due("27: bare", nothing.drawn(5, 3040, 0, -1), 0);
    for (int nm : new int[] {0, 1, 40, 100, 141, 199, 3000, 3041, 3101, 3100, -101, MAX, MIN}) {
      due("27: bad nm " + nm, x.drawn(0, nm, 0, -1), BAD);
    }
    for (int[] bad : new int[][] {{1, -1}, {-1, -1}, {0, -2}, {0, 6}, {MAX, MAX}, {0, MIN}}) {
      due("27: bad", x.drawn(0, 101, bad[0], bad[1]), BAD);
    }
  }

  // ---- 28 to 35: in deed

  private static void look() {
    DustInOrder x = withSills(0, 0, 0, 9);
    due("28: on all", x.look(17), 7 + 4);
    due("28: thicker", x.look(13), 3);
    layers("28: 0", x, 0, 1, 10);
    layers("28: 1", x, 1, 1, 4);
    due("28: by miss", x.look(61), 5 + 2);
    due("28: another", x.look(62), 5 + 2);
    layers("28: new ones", x, 0, 1, 15, 2, 5);
    for (int bad : new int[] {-1, 66, MAX, MIN}) {
      due("28: bad", x.look(bad), BAD);
    }
    due("28: lookings", x.led(0), 4);
    due("28: laid", x.led(1), 28);
    DustInOrder y = withSills(0, 0);
    for (int i = 0; i < 10; i++) {
      y.look(9);
    }
    y.look(5);
    due("28: 95 lie", y.of(0, 5), 95);
    due("28: 99 at most", y.look(9), 4);
    due("28: no more", y.look(9), 0);
    due("28: laid", y.led(1), 99);
    for (int i = 1; i < 12; i++) {
      due("28: to twelve", y.look(10 * (i % 6) + 1), 1);
    }
    due("28: twelve", y.of(0, 4), 12);
    due("28: the thirteenth", y.look(19), 9);
    layers("28: pressed at 99", y, 0, 0, 99, 2, 1, 3, 1, 4, 1, 5, 1, 0, 1, 1, 1, 2, 1, 3, 1, 4, 1, 5, 1, 1, 9);
    due("28: thicker at twelve", y.look(11), 1);
    due("28: still twelve", y.layer(0, 11, 1), 10);
    // asked with as many as lie ahead of it
    law(y, "k=12?3;1");
    due("28: by twelve", y.look(25), 3);
    DustInOrder none = new DustInOrder();
    due("28: no sills", none.look(9), 0);
    due("28: a looking all the same", none.led(0), 1);
  }

  private static void blowAndSweep() {
    DustInOrder x = oneSill(9, 15, 3);
    due("29: of nothing", x.blow(0, 0), 0);
    due("29: within one", x.blow(0, 2), 2);
    layers("29: thinner", x, 0, 0, 9, 1, 5, 0, 1);
    due("29: into the next", x.blow(0, 2), 2);
    layers("29: gone", x, 0, 0, 9, 1, 4);
    due("29: just one", x.blow(0, 4), 4);
    layers("29: one is left", x, 0, 0, 9);
    due("29: more than lies", x.blow(0, 99), 9);
    due("29: bare", x.blow(0, 99), 0);
    due("31: breathed off", x.led(2), 17);
    for (int[] bad : new int[][] {{1, 0}, {-1, 0}, {0, -1}, {0, 100}, {MAX, MIN}}) {
      due("29: bad", x.blow(bad[0], bad[1]), BAD);
    }
    x.look(9);
    x.look(19);
    due("30: all", x.sweep(0), 18);
    layers("30: bare", x, 0);
    due("30: bare already", x.sweep(0), 0);
    due("30: bad", x.sweep(1), BAD);
    due("30: bad", x.sweep(-1), BAD);
    due("30: bad", x.sweep(MAX), BAD);
    int[] led = {5, 35, 17, 18, 2};
    for (int what = 0; what <= 4; what++) {
      due("31: " + what, x.led(what), led[what]);
    }
    for (int bad : new int[] {-1, 5, MAX, MIN}) {
      due("31: bad", x.led(bad), BAD);
    }
    DustInOrder two = withSills(0, 0, 0, 0);
    two.look(9);
    two.blow(1, 3);
    due("29: only one sill", two.of(0, 5) * 100 + two.of(1, 5), 906);
    two.sweep(0);
    due("30: only one sill", two.of(0, 5) * 100 + two.of(1, 5), 6);
  }

  private static void images() {
    DustInOrder x = oneSill(9, 15);
    due("33: none", x.back(), STATE);
    due("32: lookings", x.image(), 2);
    x.look(27);
    x.blow(0, 1);
    x.sweep(0);
    x.sill(4, 4);
    x.look(38);
    x.mend(0, 0, 7);
    due("33: lookings", x.back(), 2);
    layers("33: as it lay", x, 0, 0, 9, 1, 5);
    layers("33: come since", x, 1);
    int[] led = {2, 14, 0, 0, 0};
    for (int what = 0; what <= 4; what++) {
      due("33: led " + what, x.led(what), led[what]);
    }
    due("33: sills stay", x.count(0), 2);
    due("33: numbers stay", x.of(0, 0), 7);
    due("33: changes stay", x.count(2), 1);
    x.look(41);
    due("33: once more", x.back(), 2);
    layers("33: as it lay, once more", x, 0, 0, 9, 1, 5);
    x.look(41);
    due("32: another", x.image(), 3);
    x.sweep(0);
    due("33: the other", x.back(), 3);
    layers("33: the other lay so", x, 0, 0, 9, 1, 5, 4, 1);
    // a SILL that was there when an earlier image was kept
    DustInOrder y = new DustInOrder();
    due("32: empty", y.image(), 0);
    y.sill(0, 0);
    y.look(9);
    due("33: empty", y.back(), 0);
    due("33: bare", y.of(0, 4), 0);
    due("33: led nothing", y.led(1), 0);
  }

  private static void undoing() {
    DustInOrder x = withSills(1, 2);
    x.mend(0, 0, 3);
    x.mend(0, 1, 4);
    x.mend(3, 2, 8);
    x.mend(0, 3, 1);
    x.look(9);
    due("34: season", x.undo(), 3);
    due("34: season was", x.of(0, 3), 0);
    due("34: miss", x.undo(), 2);
    due("34: miss was", x.of(3, 2), 5);
    due("34: draught", x.undo(), 1);
    due("34: draught was", x.of(0, 1), 2);
    due("34: draught counts at once", x.lays(0, 9), 9);
    due("34: high", x.undo(), 0);
    due("34: high was", x.of(0, 0), 1);
    due("34: none", x.undo(), STATE);
    due("34: deeds are none", x.of(0, 5), 8);
    due("35: high", x.redo(), 3);
    due("35: high is", x.of(0, 0), 3);
    due("35: draught", x.redo(), 2);
    due("35: draught is", x.of(0, 1), 4);
    due("35: draught counts at once", x.lays(0, 9), 8);
    due("45: may be undone", x.count(2), 2);
    x.mend(0, 1, 4);
    x.mend(0, 1, 10);
    due("35: the same and a bad one do not come behind", x.redo(), 1);
    due("35: miss is", x.of(3, 2), 8);
    x.mend(0, 1, 5);
    due("35: another came behind", x.redo(), STATE);
    due("45: four", x.count(2), 4);
    due("34: it", x.undo(), 3);
    due("34: draught is", x.of(0, 1), 4);
    due("35: it", x.redo(), 0);
    due("35: none", x.redo(), STATE);
    DustInOrder y = withSills(0, 0);
    for (int i = 1; i <= 41; i++) {
      y.mend(0, 0, i % 10);
    }
    due("45: 40 at most", y.count(2), 40);
    for (int i = 39; i >= 0; i--) {
      due("34: down", y.undo(), i);
    }
    due("34: the oldest is not kept", y.of(0, 0), 1);
    due("34: no more", y.undo(), STATE);
    for (int i = 39; i >= 0; i--) {
      due("35: up", y.redo(), i);
    }
    due("35: at last", y.of(0, 0), 1);
    due("35: no more", y.redo(), STATE);
  }

  private static void undoingMany() {
    DustInOrder x = withSills(0, 0, 0, 0, 0, 0);
    int[][] numbers = {{0, 0}, {1, 1}, {4, 2}, {2, 0}, {0, 3}, {5, 2}, {2, 1}};
    int[][] changes = new int[47][];
    for (int i = 0; i < changes.length; i++) {
      int[] number = numbers[i % numbers.length];
      int was = x.of(number[0], number[1]);
      int v = (was + 1 + i % 3) % (number[1] == 3 ? 4 : 10);
      changes[i] = new int[] {number[0], number[1], was, v};
      due("4: mended", x.mend(number[0], number[1], v), was);
    }
    for (int i = changes.length - 1; i >= 7; i--) {
      due("34: many", x.undo(), i - 7);
      due("34: it was", x.of(changes[i][0], changes[i][1]), changes[i][2]);
    }
    due("34: 40 are kept", x.undo(), STATE);
    for (int i = 7; i < changes.length; i++) {
      due("35: many", x.redo(), changes.length - 1 - i);
      due("35: it is", x.of(changes[i][0], changes[i][1]), changes[i][3]);
    }
    due("35: all done", x.redo(), STATE);
  }

  // ---- 36 to 45: acts, shelves

  private static void bodies() {
    DustInOrder x = new DustInOrder();
    for (int bad : new int[] {-1, 8, MAX, MIN}) {
      due("36: bad", x.body(bad), BAD);
    }
    for (int i = 0; i < 50; i++) {
      due("36: number", x.body(i % 8), i);
    }
    due("36: full", x.body(0), FULL);
    due("36: bad ahead of full", x.body(8), BAD);
    due("45: bodies", x.count(3), 50);
  }

  // what the acts answer, written out by hand from the table of part 5, by KIND
  private static int lies(int kind, int n, int x) {
    switch (kind) {
      case 1:
      case 4:
        return x + n + 3;
      case 6:
        return (x + n) * 2;
      case 7:
        return (x + n) * 2 - 1;
      default:
        return x + n;
    }
  }

  private static int reads(int kind, int n, int x) {
    switch (kind) {
      case 2:
        return -(lies(kind, n, x) * 2);
      case 3:
      case 5:
        return -(lies(kind, n, x + 1) * 2);
      case 7:
        return lies(kind, n, x) * 2 + (2 ^ n);
      default:
        return lies(kind, n, x) * 2;
    }
  }

  private static int falls(int kind, int n, int x) {
    switch (kind) {
      case 3:
        return (x ^ n) * 3;
      case 5:
        return (x ^ n) * 3 - lies(kind, n, 2);
      default:
        return x ^ n;
    }
  }

  private static int tells(int kind, int n, int x) {
    int plain = reads(kind, n, x) - falls(kind, n, 1);
    return kind == 4 ? plain ^ 5 : kind == 5 ? plain + 1 : plain;
  }

  private static final int[][][] TRACES = {
    {{1}, {10, 1}, {11}, {2, 10, 1, 11}},
    {{20, 1}, {10, 20, 1}, {11}, {2, 10, 20, 1, 11}},
    {{1}, {30, 10, 1}, {11}, {2, 30, 10, 1, 11}},
    {{1}, {41, 30, 10, 1}, {40, 11}, {2, 41, 30, 10, 1, 40, 11}},
    {{20, 1}, {10, 20, 1}, {11}, {50, 2, 10, 20, 1, 11}},
    {{1}, {41, 30, 10, 1}, {60, 40, 11, 1}, {61, 2, 41, 30, 10, 1, 60, 40, 11, 1}},
    {{70, 1}, {10, 70, 1}, {11}, {2, 10, 70, 1, 11}},
    {{81, 70, 1}, {80, 10, 81, 70, 1, 11}, {11}, {2, 80, 10, 81, 70, 1, 11, 11}},
  };

  private static void acts() {
    DustInOrder x = new DustInOrder();
    for (int i = 0; i < 24; i++) {
      x.body(i % 8);
    }
    int[] xs = {0, 1, -1, 5, 1000, MAX, MIN, 0x55555555};
    for (int n = 0; n < 24; n++) {
      int v = xs[(n * 5 + 3) % xs.length];
      int kind = n % 8;
      int[] want = {lies(kind, n, v), reads(kind, n, v), falls(kind, n, v), tells(kind, n, v)};
      for (int act = 0; act < 4; act++) {
        due("37: act " + act + " of kind " + kind, x.act(n, act, v), want[act]);
        int[] trace = TRACES[kind][act];
        due("45: ran", x.count(4), trace.length);
        if (n < 16) {
          for (int i = 0; i < trace.length; i++) {
            due("38: of act " + act + " of kind " + kind, x.trace(i), trace[i]);
          }
        } else {
          due("38: behind the last", x.trace(trace.length), BAD);
        }
      }
    }
  }

  private static void noActs() {
    DustInOrder x = new DustInOrder();
    x.body(0);
    int[][] nones = {{1, 0}, {-1, 0}, {0, -1}, {0, 4}, {50, 0}, {MAX, MAX}, {MIN, MIN}};
    for (int[] none : nones) {
      due("37: ran", x.act(0, 3, 5), 9);
      due("38: before", x.trace(0), 2);
      due("37: none", x.act(none[0], none[1], 5), 0);
      due("38: no trace then", x.trace(0), BAD);
      due("45: none ran", x.count(4), 0);
    }
    x.act(0, 0, 1);
    for (int bad : new int[] {-1, 1, 23, 24, MAX, MIN}) {
      due("38: bad", x.trace(bad), BAD);
    }
  }

  private static void shelves() {
    DustInOrder x = new DustInOrder();
    x.body(4);
    due("39: a body", x.keep(0, 0), 1);
    due("44: it", x.taken(0, 4), 4);
    due("39: nothing", x.keep(0, -1), 1);
    due("44: nothing", x.taken(0, 4), NOTHING);
    for (int[] bad : new int[][] {{-1, 0}, {6, 0}, {0, 1}, {0, -2}, {6, -1}, {MAX, 0}, {0, MIN}, {0, MAX}}) {
      due("39: bad", x.keep(bad[0], bad[1]), BAD);
    }
    x.keep(0, 0);
    due("39: bad changes nothing", x.keep(0, 7), BAD);
    due("44: still", x.taken(0, 4), 4);
    int[][] bads = {{-1, 0, 0}, {6, 0, 0}, {0, -1, 0}, {0, 5, 0}, {0, 0, 61}, {0, 5, -1}, {6, 0, -1}, {0, 0, MAX}};
    for (int[] bad : bads) {
      due("40: bad", x.row(bad[0], bad[1], bad[2]), BAD);
    }
    due("40: below 0", x.row(0, 0, -1), SIZE);
    due("40: far below 0", x.row(0, 4, MIN), SIZE);
    due("40: changed nothing", x.taken(0, 4), 4);
    due("40: none", x.row(0, 0, 0), 1);
    due("42: no place in none", x.element(0, 0), BAD_LONG);
    due("40: sixty", x.row(0, 0, 60), 1);
    due("44: a row", x.taken(0, 4), KIND);
    due("42: 0 at first", x.element(0, 59), 0);
    x.put(0, 59, 7);
    due("42: put", x.element(0, 59), 7);
    x.row(0, 0, 60);
    due("42: 0 anew", x.element(0, 59), 0);
    x.keep(0, 0);
    due("41: a body", x.put(0, 0, 1), KIND);
    due("42: a body", x.element(0, 0), BAD_LONG);
    x.keep(0, -1);
    due("41: nothing", x.put(0, 0, 1), NOTHING);
    due("42: nothing", x.element(0, 0), BAD_LONG);
    x.row(0, 2, 3);
    for (int i : new int[] {-1, 3, 60, MAX, MIN}) {
      due("41: no place", x.put(0, i, 1), PLACE);
      due("42: no place", x.element(0, i), BAD_LONG);
    }
    for (int shelf : new int[] {-1, 6, MAX, MIN}) {
      due("41: bad", x.put(shelf, 0, 1), BAD);
      due("42: bad", x.element(shelf, 0), BAD_LONG);
    }
  }

  private static void lowestBits() {
    long[] values = {0, 1, -1, 127, 128, 255, 256, 300, 32767, 32768, 65536, 1L << 31, (1L << 31) - 1, 1L << 32, 1L << 40,
      Long.MAX_VALUE, Long.MIN_VALUE, -129, -32769};
    DustInOrder x = new DustInOrder();
    for (int sort = 0; sort <= 4; sort++) {
      x.row(sort, sort, 2);
      for (long v : values) {
        long want = sort == 0 ? (byte) v : sort == 1 ? (short) v : sort == 2 ? (int) v : sort == 3 ? v : v != 0 ? 1 : 0;
        due("41: put", x.put(sort, 1, v), 1);
        due("42: sort " + sort + " of " + v, x.element(sort, 1), want);
      }
      due("42: beside", x.element(sort, 0), 0);
    }
  }

  private static void shifts() {
    DustInOrder x = new DustInOrder();
    write(x, 0, 1, 2, 3, 4, 5);
    write(x, 1, 9, 9, 9);
    due("43: to another", x.shift(0, 1, 1, 0, 2), 2);
    rowIs("43: another", x, 1, 2, 3, 9);
    rowIs("43: the one", x, 0, 1, 2, 3, 4, 5);
    due("43: upward", x.shift(0, 0, 0, 1, 4), 4);
    rowIs("43: upward", x, 0, 1, 1, 2, 3, 4);
    due("43: downward", x.shift(0, 1, 0, 0, 4), 4);
    rowIs("43: downward", x, 0, 1, 2, 3, 4, 4);
    due("43: none", x.shift(0, 5, 1, 3, 0), 0);
    int[][] places = {{-1, 0, 1}, {0, -1, 1}, {0, 0, -1}, {5, 0, 1}, {0, 3, 1}, {0, 0, 4}, {4, 0, 2}, {0, 2, 2}, {6, 0, 0},
      {0, 4, 0}, {MAX, 0, 1}, {0, MAX, 1}, {0, 0, MAX}, {1, 1, MAX}, {MIN, 0, 1}, {0, 0, MIN}, {MAX, MAX, MAX}};
    for (int[] p : places) {
      due("43: no place " + p[0] + " " + p[1] + " " + p[2], x.shift(0, p[0], 1, p[1], p[2]), PLACE);
    }
    rowIs("43: as it was", x, 1, 2, 3, 9);
    for (int[] bad : new int[][] {{-1, 0}, {0, -1}, {6, 0}, {0, 6}, {6, 5}, {5, MAX}, {MIN, 0}}) {
      due("43: bad", x.shift(bad[0], 0, bad[1], 0, 1), BAD);
    }
    due("43: nothing there", x.shift(2, 0, 0, 0, 1), NOTHING);
    due("43: nothing to come to", x.shift(0, 0, 2, 0, 1), NOTHING);
    x.row(2, 1, 5);
    due("43: unlike sorts", x.shift(0, 0, 2, 0, 1), KIND);
    due("43: unlike sorts ahead of places", x.shift(0, 0, 2, 0, -1), KIND);
    x.body(0);
    x.keep(3, 0);
    due("43: a body", x.shift(3, 0, 0, 0, 1), KIND);
    due("43: to a body", x.shift(0, 0, 3, 0, 1), KIND);
    due("43: nothing there ahead of a body", x.shift(3, 0, 4, 0, 1), NOTHING);
    due("43: nothing there ahead of a body", x.shift(4, 0, 3, 0, 1), NOTHING);
  }

  private static void rowIs(String name, DustInOrder x, int shelf, int... want) {
    for (int i = 0; i < want.length; i++) {
      due(name + " " + i, x.element(shelf, i), want[i]);
    }
  }

  private static void taken() {
    int[] above = {-1, 0, 0, 2, 1, 3, 0, 6};
    DustInOrder x = new DustInOrder();
    for (int kind = 0; kind < 8; kind++) {
      x.body(kind);
      x.keep(0, kind);
      for (int k = 0; k < 8; k++) {
        int up = kind;
        while (up >= 0 && up != k) {
          up = above[up];
        }
        due("44: " + kind + " for " + k, x.taken(0, k), up == k ? kind : KIND);
      }
    }
    for (int[] bad : new int[][] {{-1, 0}, {6, 0}, {0, -1}, {0, 8}, {1, 8}, {MAX, MAX}, {MIN, MIN}}) {
      due("44: bad", x.taken(bad[0], bad[1]), BAD);
    }
    due("44: nothing there", x.taken(1, 0), NOTHING);
    x.row(1, 0, 1);
    due("44: a row", x.taken(1, 0), KIND);
  }

  private static void count() {
    DustInOrder x = withSills(0, 0, 0, 0);
    x.feed('1');
    x.feed('1');
    x.feed('1');
    x.mend(0, 0, 1);
    for (int i = 0; i < 4; i++) {
      x.body(5);
    }
    x.act(0, 3, 0);
    int[] want = {2, 3, 1, 4, 10};
    for (int what = 0; what <= 4; what++) {
      due("45: " + what, x.count(what), want[what]);
    }
    for (int bad : new int[] {-1, 5, MAX, MIN}) {
      due("45: bad", x.count(bad), BAD);
    }
  }

  public static void main(String[] args) {
    newObject();
    sill();
    sills();
    mend();
    of();
    layer();
    feed();
    faults();
    laws();
    lays();
    books();
    laid();
    breath();
    clear();
    touch();
    tellers();
    days();
    longDays();
    alike();
    likely();
    judge();
    drawn();
    look();
    blowAndSweep();
    images();
    undoing();
    undoingMany();
    bodies();
    acts();
    noActs();
    shelves();
    lowestBits();
    shifts();
    taken();
    count();
    System.out.println(asked + " answers asked, " + wrong + " not as due");
    if (wrong != 0) {
      System.exit(1);
    }
  }
}
