/** The boundary cases of part 4 of 'Terms' (in deed) and of promises 28 to 35. */
public final class DeedEdges {
  private static final int BAD = Due.BAD, NOT = Due.NOT, STATE = Due.STATE;
  private static final int MAX = Due.MAX, MIN = Due.MIN;

  private static void led(String name, DustInOrder x, int... want) {
    for (int what = 0; what <= 4; what++) {
      Due.due(name + ": LED " + what, x.led(what), want[what]);
    }
  }

  // "A LOOKING: how many grains more lie on all SILLS by it"; "a LOOKING (0 .. 65) lays on all SILLS"
  private static void onAllSills() {
    int all = 0;
    DustInOrder x = new DustInOrder();
    int lookings = 0;
    for (int sills = 0; sills <= 5; sills++) {
      Due.due("28: on " + sills, x.look(19), 9 * sills);
      lookings++;
      all += 9 * sills;
      led("28: on " + sills, x, lookings, all, 0, 0, 0);
      if (sills < 5) {
        x.sill(0, 0);
      }
    }
    Due.due("28: the last one came late", x.of(4, 5), 9);
    Due.due("28: the first one", x.of(0, 5), 45);
  }

  // "0 .. 59; 60 to 65: of PEOPLE 0 to 5 by MISS"
  private static void eachLooking() {
    for (int looking = 0; looking <= 65; looking++) {
      DustInOrder x = Due.house(0, 0);
      for (int one = 0; one <= 5; one++) {
        x.mend(one, 2, 9 - one);
      }
      int whom = looking < 60 ? looking / 10 : looking - 60;
      int much = looking < 60 ? looking % 10 : 9 - whom;
      Due.due("28: by " + looking, x.look(looking), much);
      if (much == 0) {
        Due.lies("28: nothing by " + looking, x, 0);
      } else {
        Due.lies("28: by " + looking, x, 0, whom, much);
      }
      led("28: by " + looking, x, 1, much, 0, 0, 0);
    }
    DustInOrder x = Due.grown(1, 5);
    for (int looking : Due.outside(0, 65)) {
      Due.due("28: " + looking, x.look(looking), BAD);
      Due.lies("28: nothing by " + looking, x, 0, 1, 5);
      led("28: " + looking + " is none", x, 1, 5, 0, 0, 0);
    }
  }

  // "Grains: how much THICKER the laid LAYER is (what is lost above 99, or by pressing, does not count)"
  private static void grainsLost() {
    DustInOrder x = Due.grown(0, 97);
    int before = x.led(0);
    Due.due("28: two of nine", x.look(9), 2);
    Due.due("28: none of nine", x.look(9), 0);
    Due.due("28: none of one", x.look(1), 0);
    led("28: lost above 99", x, before + 3, 99, 0, 0, 0);
    DustInOrder full = Due.house(0, 0);
    for (int k = 0; k < 12; k++) {
      Due.grow(full, k % 2, 99);
    }
    Due.due("28: all that may lie", full.led(1), 1188);
    Due.due("28: 99 are lost by pressing", full.look(29), 9);
    Due.due("28: they do not count", full.led(1), 1197);
    Due.due("28: they lie no more", full.of(0, 5), 1098);
    Due.due("30: they are not swept off", full.sweep(0), 1098);
    Due.due("31: swept off", full.led(3), 1098);
    // on two SILLS, by what each of them takes
    DustInOrder two = Due.house(0, 0, 0, 9);
    Due.grow(two, 0, 95);
    Due.due("28: 4 and 6", two.look(9), 10);
    Due.due("28: 0 and 6", two.look(9), 6);
  }

  // "THE LAW is asked with as many LAYERS as lie there ahead of it"
  private static void askedAhead() {
    DustInOrder x = Due.house(0, 0);
    Due.law(x, "k=0?9;k=1?0;5");
    Due.due("28: on bare", x.look(0), 9);
    Due.due("28: on one", x.look(10), 0);
    Due.due("28: on one of his own", x.look(0), 0);
    DustInOrder y = Due.grown(0, 1, 1, 1, 0, 1, 1, 1, 0, 1, 1, 1, 0, 1, 1, 1, 0, 1, 1, 1, 0, 1);
    Due.law(y, "k=11?1;k=12?2;k>12?3;4");
    Due.due("28: on eleven", y.look(10), 1);
    Due.due("28: on twelve, ahead of pressing", y.look(20), 2);
    Due.due("28: on twelve again", y.look(30), 2);
  }

  // "A BREATH of v (0 .. 99): grains taken."; "A LAYER of which a BREATH leaves nothing is gone."
  private static void blowing() {
    int[][] vTakenLayers = {{0, 0, 3}, {1, 1, 3}, {3, 3, 3}, {4, 4, 2}, {5, 5, 2}, {8, 8, 2}, {9, 9, 1}, {10, 10, 1}, {14, 14, 1},
      {15, 15, 0}, {16, 15, 0}, {98, 15, 0}, {99, 15, 0}};
    for (int[] w : vTakenLayers) {
      DustInOrder x = Due.grown(0, 6, 1, 5, 0, 4);
      Due.due("29: " + w[0], x.blow(0, w[0]), w[1]);
      Due.due("29: LAYERS behind " + w[0], x.of(0, 4), w[2]);
      Due.due("29: THICK behind " + w[0], x.of(0, 5), 15 - w[1]);
      Due.due("29: gone behind " + w[0], x.layer(0, w[2], 1), NOT);
      led("29: " + w[0], x, 3, 15, w[1], 0, 0);
    }
    DustInOrder x = Due.grown(0, 99, 1, 99);
    Due.due("29: 99 is the most", x.blow(0, 99), 99);
    Due.lies("29: behind 99", x, 0, 0, 99);
    Due.due("29: all of it", x.blow(0, 99), 99);
    Due.due("29: of nothing", x.blow(0, 99), 0);
    Due.lies("29: bare", x, 0);
    Due.due("31: breathed off", x.led(2), 198);
    for (int v : Due.outside(0, 99)) {
      Due.due("29: " + v, x.blow(0, v), BAD);
    }
    // whoever lies uppermost then becomes THICKER
    DustInOrder y = Due.grown(3, 6, 1, 5);
    y.blow(0, 5);
    y.look(31);
    Due.lies("29: the gone one parts no more", y, 0, 3, 7);
    DustInOrder z = Due.grown(3, 6, 1, 5);
    z.blow(0, 4);
    z.look(31);
    Due.lies("29: one grain parts still", z, 0, 3, 6, 1, 1, 3, 1);
  }

  // "A SILL is SWEPT: grains taken."
  private static void sweeping() {
    DustInOrder x = Due.house(0, 0, 0, 0);
    Due.due("30: bare", x.sweep(1), 0);
    led("30: bare", x, 0, 0, 0, 0, 1);
    x.look(1);
    x.look(19);
    Due.due("30: two LAYERS", x.sweep(0), 10);
    Due.lies("30: bare then", x, 0);
    Due.lies("30: the other lies", x, 1, 0, 1, 1, 9);
    led("30: two LAYERS", x, 2, 20, 0, 10, 2);
    Due.due("30: bare again", x.sweep(0), 0);
    led("30: bare again", x, 2, 20, 0, 10, 3);
    for (int sill : Due.outside(0, 1)) {
      Due.due("30: " + sill, x.sweep(sill), BAD);
    }
    led("30: those are none", x, 2, 20, 0, 10, 3);
  }

  // "AN IMAGE is kept: LOOKINGS."; "It is laid back (SILLS that came since are bare): LOOKINGS. STATE: there is none."
  private static void images() {
    DustInOrder x = new DustInOrder();
    Due.due("33: none", x.back(), STATE);
    Due.due("32: of no SILLS", x.image(), 0);
    Due.due("33: of no SILLS", x.back(), 0);
    for (int sill = 0; sill < 5; sill++) {
      x.sill(0, 0);
      x.look(10 * sill + 9);
    }
    for (int sill = 0; sill < 5; sill++) {
      Due.due("33: dust lies", x.of(sill, 4), 5 - sill);
    }
    Due.due("33: of no SILLS", x.back(), 0);
    for (int sill = 0; sill < 5; sill++) {
      Due.lies("33: came since", x, sill);
    }
    Due.due("33: SILLS stay", x.count(0), 5);
    led("33: as LED was", x, 0, 0, 0, 0, 0);
    x.look(19);
    Due.due("32: another", x.image(), 1);
    x.sweep(2);
    x.blow(3, 4);
    Due.due("33: it", x.back(), 1);
    Due.due("33: and again", x.back(), 1);
    for (int sill = 0; sill < 5; sill++) {
      Due.lies("33: as it lay", x, sill, 1, 9);
    }
    led("33: as LED was", x, 1, 45, 0, 0, 0);
  }

  private static void imageOfAFullSill() {
    DustInOrder x = Due.house(0, 0);
    for (int k = 0; k < 12; k++) {
      Due.grow(x, 5 - k % 6, 99);
    }
    int lookings = x.image();
    Due.due("32: LOOKINGS", lookings, 132);
    x.sweep(0);
    x.look(11);
    Due.due("33: LOOKINGS", x.back(), 132);
    for (int k = 0; k < 12; k++) {
      Due.due("33: WHOM", x.layer(0, k, 0), 5 - k % 6);
      Due.due("33: THICK", x.layer(0, k, 1), 99);
    }
    led("33: full", x, 132, 1188, 0, 0, 0);
    // an image of nothing lays nothing back
    x.sweep(0);
    Due.due("32: bare", x.image(), 132);
    x.look(12);
    Due.due("33: bare", x.back(), 132);
    Due.lies("33: bare", x, 0);
    led("33: bare", x, 132, 1188, 0, 1188, 1);
  }

  // "AN IMAGE keeps what lies, what LED tells": nothing else
  private static void imageAlone() {
    DustInOrder x = Due.house(1, 2);
    x.image();
    x.mend(0, 0, 5);
    x.mend(0, 3, 2);
    x.mend(2, 2, 7);
    x.undo();
    Due.law(x, "4");
    x.feed('n');
    x.body(3);
    x.act(0, 1, 1);
    x.row(0, 0, 3);
    x.back();
    Due.due("33: HIGH", x.of(0, 0), 5);
    Due.due("33: SEASON", x.of(0, 3), 2);
    Due.due("33: MISS", x.of(2, 2), 5);
    Due.due("33: THE LAW", x.lays(0, 9), 4);
    Due.due("33: THE TAPE", x.count(1), 1);
    Due.due("33: CHANGES", x.count(2), 2);
    Due.due("33: BODIES", x.count(3), 1);
    Due.due("33: THE TRACE", x.count(4), 4);
    Due.due("33: SHELVES", x.put(0, 2, 1), 1);
    Due.due("33: DONE AGAIN", x.redo(), 0);
    Due.due("33: MISS again", x.of(2, 2), 7);
  }

  // "40 at most are kept"
  private static void fortyChanges() {
    for (int all = 0; all <= 43; all++) {
      DustInOrder x = Due.house(0, 0);
      for (int i = 1; i <= all; i++) {
        Due.due("4: change", x.mend(0, 0, i % 10), (i - 1) % 10);
        Due.due("45: changes", x.count(2), Math.min(40, i));
      }
      int kept = Math.min(40, all);
      for (int i = 1; i <= kept; i++) {
        Due.due("34: of " + all, x.undo(), kept - i);
        Due.due("34: of " + all + ", HIGH", x.of(0, 0), (all - i) % 10);
      }
      Due.due("34: no more of " + all, x.undo(), STATE);
      Due.due("34: no more of " + all + ", HIGH", x.of(0, 0), (all - kept) % 10);
      Due.due("45: none", x.count(2), 0);
      for (int i = 1; i <= kept; i++) {
        Due.due("35: of " + all, x.redo(), kept - i);
        Due.due("35: of " + all + ", HIGH", x.of(0, 0), (all - kept + i) % 10);
        Due.due("45: changes again", x.count(2), i);
      }
      Due.due("35: no more of " + all, x.redo(), STATE);
    }
  }

  // forty of unlike numbers are kept just as they came
  private static void fortyUnlikeChanges() {
    int[][] numbers = {{4, 1, 9}, {0, 0, 9}, {5, 2, 9}, {0, 3, 3}, {3, 0, 9}, {0, 2, 9}, {2, 1, 9}};
    for (int all : new int[] {40, 41, 42, 60}) {
      DustInOrder x = Due.house(1, 2, 3, 4, 5, 6, 7, 8, 9, 0);
      int[] values = {0, 1, 5, 0, 7, 5, 6};
      int[] was = new int[all];
      int[] became = new int[all];
      for (int i = 0; i < all; i++) {
        int[] n = numbers[i % 7];
        was[i] = values[i % 7];
        became[i] = (was[i] + 1 + i % n[2]) % (n[2] + 1);
        values[i % 7] = became[i];
        Due.due("4: unlike ones", x.mend(n[0], n[1], became[i]), was[i]);
      }
      for (int i = all - 1; i >= all - 40; i--) {
        Due.due("34: unlike ones of " + all, x.undo(), i - all + 40);
        Due.due("34: it was, " + i + " of " + all, x.of(numbers[i % 7][0], numbers[i % 7][1]), was[i]);
        // the next one to be undone is as it became
        int next = (i + 6) % 7;
        Due.due("34: another is, " + i + " of " + all, x.of(numbers[next][0], numbers[next][1]),
            i == 0 ? 6 : became[i - 1]);
      }
      Due.due("34: the others are not kept", x.undo(), STATE);
      for (int i = all - 40; i < all; i++) {
        Due.due("35: unlike ones of " + all, x.redo(), all - 1 - i);
        Due.due("35: it is, " + i + " of " + all, x.of(numbers[i % 7][0], numbers[i % 7][1]), became[i]);
      }
    }
  }

  // "(as long as no other came behind)"; "telling the same number is none"; "deeds are none"
  private static void doneAgain() {
    for (int undone = 0; undone <= 3; undone++) {
      DustInOrder x = Due.house(0, 0);
      for (int v = 1; v <= 3; v++) {
        x.mend(0, 0, v);
      }
      for (int i = 0; i < undone; i++) {
        x.undo();
      }
      int v = 3 - undone;
      Due.due("4: the same", x.mend(0, 0, v), v);
      Due.due("4: refused", x.mend(0, 0, 10), BAD);
      Due.due("4: refused", x.mend(1, 0, 9), BAD);
      x.look(9);
      x.blow(0, 1);
      x.sweep(0);
      x.image();
      x.back();
      x.sill(3, 3);
      Due.law(x, "2");
      x.body(0);
      Due.due("45: may be undone", x.count(2), 3 - undone);
      for (int i = 1; i <= undone; i++) {
        Due.due("35: none came behind", x.redo(), undone - i);
      }
      Due.due("35: no more", x.redo(), STATE);
      Due.due("35: as it was", x.of(0, 0), 3);
    }
    for (int undone = 0; undone <= 3; undone++) {
      DustInOrder x = Due.house(0, 0);
      for (int v = 1; v <= 3; v++) {
        x.mend(0, 0, v);
      }
      for (int i = 0; i < undone; i++) {
        x.undo();
      }
      x.mend(0, 3, 1);
      Due.due("35: another came behind " + undone, x.redo(), STATE);
      Due.due("45: changes", x.count(2), 4 - undone);
      Due.due("34: it is undone first", x.undo(), 3 - undone);
      Due.due("34: SEASON", x.of(0, 3), 0);
      Due.due("34: HIGH stays", x.of(0, 0), 3 - undone);
    }
  }

  // another change behind forty, some of them undone
  private static void fullAndUndone() {
    for (int undone = 0; undone <= 40; undone++) {
      DustInOrder x = Due.house(0, 0);
      for (int i = 1; i <= 40; i++) {
        x.mend(0, 1, i % 10);
      }
      for (int i = 0; i < undone; i++) {
        x.undo();
      }
      x.mend(5, 2, 0);
      Due.due("45: forty at most", x.count(2), Math.min(40, 41 - undone));
      Due.due("35: none again", x.redo(), STATE);
      for (int left = Math.min(40, 41 - undone) - 1; left >= 0; left--) {
        Due.due("34: behind " + undone, x.undo(), left);
      }
      Due.due("34: MISS", x.of(5, 2), 5);
      Due.due("34: the oldest is kept but for one", x.of(0, 1), undone == 0 ? 1 : 0);
      Due.due("34: none", x.undo(), STATE);
    }
  }

  // "CHANGES (all numbers of mend() ...)": each at its ends, and at once in what THE LAW gives
  private static void eachNumber() {
    int[][] numbers = {{0, 0, 9}, {4, 0, 9}, {0, 1, 9}, {4, 1, 9}, {0, 2, 9}, {5, 2, 9}, {0, 3, 3}};
    for (int[] n : numbers) {
      DustInOrder x = Due.house(1, 1, 1, 1, 1, 1, 1, 1, 1, 1);
      String name = n[0] + " " + n[1];
      int first = x.of(n[0], n[1]);
      String text = n[1] == 0 ? "h" : n[1] == 1 ? "g" : n[1] == 2 ? "n" : "s";
      Due.law(x, text);
      int looking = n[1] == 2 ? 60 + n[0] : 0;
      int sill = n[1] < 2 ? n[0] : 0;
      x.mend(n[0], n[1], n[2]);
      x.mend(n[0], n[1], 0);
      int[] values = {first, n[2], 0};
      Due.due("9: at once " + name, x.lays(sill, looking), 0);
      for (int i = 1; i >= 0; i--) {
        Due.due("34: " + name, x.undo(), i);
        Due.due("5: " + name, x.of(n[0], n[1]), values[i]);
        Due.due("9: at once " + name, x.lays(sill, looking), values[i]);
      }
      for (int i = 1; i <= 2; i++) {
        Due.due("35: " + name, x.redo(), 2 - i);
        Due.due("5: " + name, x.of(n[0], n[1]), values[i]);
        Due.due("9: at once " + name, x.lays(sill, looking), values[i]);
      }
    }
  }

  // "UNDONE ... STATE: none.", "DONE AGAIN ... STATE: none."
  private static void none() {
    DustInOrder x = Due.house(0, 0);
    for (int i = 0; i < 3; i++) {
      Due.due("34: none", x.undo(), STATE);
      Due.due("35: none", x.redo(), STATE);
    }
    x.mend(0, 0, 0);
    Due.due("34: the same is none", x.undo(), STATE);
    x.mend(0, 0, 9);
    Due.due("35: nothing is undone", x.redo(), STATE);
    Due.due("34: one", x.undo(), 0);
    Due.due("34: none any more", x.undo(), STATE);
    Due.due("35: one", x.redo(), 0);
    Due.due("35: none any more", x.redo(), STATE);
    Due.due("34: one again", x.undo(), 0);
  }

  // "LOOKINGS (what 0), laid (1), breathed off (2), swept off (3), sweepings (4). BAD."
  private static void ledOnes() {
    DustInOrder x = Due.house(0, 0);
    for (int what : new int[] {-1, 5, 6, 256, MAX, MIN}) {
      Due.due("31: " + what, x.led(what), BAD);
    }
    x.look(9);
    x.look(8);
    x.blow(0, 5);
    x.sweep(0);
    led("31", x, 2, 17, 5, 12, 1);
  }

  public static void main(String[] args) {
    onAllSills();
    eachLooking();
    grainsLost();
    askedAhead();
    blowing();
    sweeping();
    images();
    imageOfAFullSill();
    imageAlone();
    fortyChanges();
    fortyUnlikeChanges();
    doneAgain();
    fullAndUndone();
    eachNumber();
    none();
    ledOnes();
    Due.end();
  }
}
