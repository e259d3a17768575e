import java.util.Arrays;

/**
 * Houses with sills on which dust lies in the order of who was looked for.
 * What each call does and answers stands in the project's document; the words in
 * capitals here are the ones of its part 'Terms'.
 */
public final class DustInOrder {
  public static final int BAD = -1, NOT = -2, FULL = -3, STATE = -5, VOID = -2000000000;

  private static final int NOTHING_THERE = -11, OTHER_KIND = -12, NO_PLACE = -13, SIZE_BELOW_0 = -14;
  private static final long BAD_LONG = -9223372036854775808L;

  private static final int SILLS = 5, PEOPLE = 6, LAYERS = 12, THICKEST = 99;
  private static final int MOST_NUMBER = 9, MOST_SEASON = 3, FIRST_MISS = 5;
  private static final int AMOUNTS = 10, LOOKINGS = PEOPLE * AMOUNTS, LAST_LOOKING = LOOKINGS + PEOPLE - 1;
  private static final int BOOK = 40, BREATH = 99, TOUCHES = 60, DAYS = 9;
  private static final int TAPE = 120, OPEN = 6, DIGITS = 4;
  private static final int YEARS = 30, YEAR = 40;
  private static final int CHANGES = 40, BODIES = 50, KINDS = 8, ACTS = 4, TRACE = 24, ACTS_DEEP = 40;
  private static final int SHELVES = 6, ROW = 60, SORTS = 5;
  private static final int HIGH = 0, DRAUGHT = 1, MISS = 2, SEASON = 3;
  private static final int LEDGER = 5;
  private static final int LED_LOOKINGS = 0, LED_LAID = 1, LED_BREATHED = 2, LED_SWEPT = 3, LED_SWEEPINGS = 4;
  private static final int NOBODY = -1;

  private final Sill[] house = new Sill[SILLS];
  private int sillsHere;
  private final int[] misses = new int[PEOPLE];
  private final Tape tape = new Tape();
  private final Law ruling = new Law();
  private final Law draft = new Law();
  private final Dust thought = new Dust();
  private final Days days = new Days();
  private final int[] longest = new int[(LAYERS + 1) * (LAYERS + 1)];
  private final int[] ledger = new int[LEDGER];
  private final Image kept = new Image();
  private final Changes changes = new Changes();
  private final Bodies bodies = new Bodies();
  private final Shelf[] shelves = new Shelf[SHELVES];

  public DustInOrder() {
    Arrays.fill(misses, FIRST_MISS);
    for (int i = 0; i < SHELVES; i++) {
      shelves[i] = new Shelf();
    }
  }

  // ---- sills, people

  public int sill(int high, int draught) {
    if (!isWithin(high, MOST_NUMBER) || !isWithin(draught, MOST_NUMBER)) {
      return BAD;
    }
    if (sillsHere >= SILLS) {
      return FULL;
    }
    house[sillsHere] = new Sill(ruling, high, draught);
    sillsHere++;
    return sillsHere - 1;
  }

  public int sills(int shelf, int i, int n) {
    if (!isShelf(shelf) || n < 1 || n > SILLS) {
      return BAD;
    }
    Shelf from = shelves[shelf];
    if (from.holding == Shelf.NOTHING) {
      return 0;
    }
    if (!from.isBytes()) {
      return OTHER_KIND;
    }
    if (i < 0) {
      return 0;
    }
    int came = 0;
    // the places are told by what is left behind i, as i + 2 * n could wrap
    while (came < n && from.size - i > 2 * came + 1) {
      int place = i + 2 * came;
      if (sill((int) from.elements[place], (int) from.elements[place + 1]) < 0) {
        break;
      }
      came++;
    }
    return came;
  }

  public int mend(int number, int what, int v) {
    if (!isMendable(number, what) || !isWithin(v, what == SEASON ? MOST_SEASON : MOST_NUMBER)) {
      return BAD;
    }
    int was = numberOf(number, what);
    if (was != v) {
      changes.keepNew(number, what, was, v);
      setNumber(number, what, v);
    }
    return was;
  }

  public int of(int number, int what) {
    if (isMendable(number, what)) {
      return numberOf(number, what);
    }
    Sill s = sillAt(number);
    if (s == null || what < 4 || what > 5) {
      return BAD;
    }
    return what == 4 ? s.dust.layers : s.dust.allThick();
  }

  public int layer(int sill, int k, int what) {
    Sill s = sillAt(sill);
    if (s == null || k < 0 || !isWithin(what, 1)) {
      return BAD;
    }
    return s.dust.tells(k, what);
  }

  public int feed(int letter) {
    if (!isWithin(letter, 255)) {
      return BAD;
    }
    return tape.add(letter) ? tape.length : FULL;
  }

  public int law() {
    int fault = tape.readInto(draft);
    tape.length = 0;
    if (fault >= 0) {
      return -100 - fault;
    }
    ruling.become(draft);
    forgetAll();
    return 1;
  }

  public int lays(int sill, int looking) {
    Sill s = sillAt(sill);
    if (s == null || !isLooking(looking)) {
      return BAD;
    }
    return s.gives(s.dust.layers, whomOf(looking), muchOf(looking));
  }

  // ---- days in thought

  public int later(int shelf, int n, int sill, int what) {
    Sill s = sillAt(sill);
    if (s == null || !isShelf(shelf) || !isWithin(n, BOOK) || !isWithin(what, 4)) {
      return BAD;
    }
    int refused = refusalOfBytes(shelf);
    if (refused < 0) {
      return refused;
    }
    int bare = thinkBook(s, shelves[shelf], n);
    switch (what) {
      case 0:
        return thought.layers;
      case 1:
        return thought.allThick();
      case 2:
        return thought.readBits();
      case 3:
        return thought.ofWhomMost();
      default:
        return bare;
    }
  }

  public int laid(int shelf, int n, int sill, int kw) {
    Sill s = sillAt(sill);
    if (s == null || !isShelf(shelf) || !isWithin(n, BOOK) || kw < 0 || kw % 10 > 2) {
      return BAD;
    }
    int refused = refusalOfBytes(shelf);
    if (refused < 0) {
      return refused;
    }
    thinkBook(s, shelves[shelf], n);
    int k = kw / 10;
    return kw % 10 == 2 ? thought.unlikeFromAbove(k) : thought.tells(k, kw % 10);
  }

  public int breath(int sill, int v, int what) {
    Sill s = sillAt(sill);
    if (s == null || !isWithin(v, BREATH) || !isWithin(what, 1)) {
      return BAD;
    }
    thought.become(s.dust);
    thought.takeFromAbove(v);
    return what == 0 ? thought.uppermost() : thought.layers;
  }

  public int clear(int sill, int one) {
    Sill s = sillAt(sill);
    if (s == null || !isOne(one)) {
      return BAD;
    }
    return s.dust.thickFrom(s.dust.nextOf(one, 0));
  }

  public int touch(int sill, int one, int n) {
    Sill s = sillAt(sill);
    if (s == null || !isOne(one) || !isWithin(n, MOST_NUMBER)) {
      return BAD;
    }
    thought.become(s.dust);
    for (int i = 0; i <= TOUCHES; i++) {
      if (thought.ofWhomMost() == one) {
        return i;
      }
      s.layOn(thought, one, n);
    }
    return NOT;
  }

  public int tellsOf(int one) {
    return isOne(one) ? sillsThatRead(1 << one) : BAD;
  }

  public int fewest(int set, int what) {
    if (!isWithin(set, (1 << PEOPLE) - 1) || !isWithin(what, 2)) {
      return BAD;
    }
    if (what == 2) {
      return sillsThatRead(set);
    }
    int best = fewestThatTell(set);
    return what == 0 && best >= 0 ? Integer.bitCount(best) : best;
  }

  public int corner() {
    int best = NOT;
    int most = -1;
    for (int i = 0; i < sillsHere; i++) {
      int unlike = Integer.bitCount(house[i].dust.readBits());
      if (unlike > most) {
        best = i;
        most = unlike;
      }
    }
    return best;
  }

  // ---- days read back

  public long ways(int sill, int n) {
    Sill s = sillAt(sill);
    if (s == null || !isWithin(n, DAYS)) {
      return BAD_LONG;
    }
    days.workOut(s, n, NOBODY);
    return days.fromBare(n);
  }

  public int first(int sill, int n, int k) {
    Sill s = sillAt(sill);
    if (s == null || !isWithin(n, DAYS) || k < 0) {
      return BAD;
    }
    if (k >= n) {
      return NOT;
    }
    days.workOut(s, n, NOBODY);
    int place = 0;
    int chosen = NOT;
    for (int step = 0; step <= k && place >= 0; step++) {
      chosen = days.firstLooking(s, place, n - 1 - step);
      place = chosen < 0 ? NOT : days.placeBehind(s, place, chosen);
    }
    return chosen;
  }

  public int least(int sill) {
    Sill s = sillAt(sill);
    if (s == null) {
      return BAD;
    }
    days.workOut(s, DAYS, NOBODY);
    for (int n = 0; n <= DAYS; n++) {
      if (days.fromBare(n) > 0) {
        return n;
      }
    }
    return NOT;
  }

  public int certain(int sill, int n) {
    Sill s = sillAt(sill);
    if (s == null || !isWithin(n, DAYS)) {
      return BAD;
    }
    days.workOut(s, n, NOBODY);
    if (days.fromBare(n) == 0) {
      return 0;
    }
    // who lies there was looked for by every way; of the others ways without them tell
    int bits = s.dust.readBits();
    for (int one = 0; one < PEOPLE; one++) {
      if ((bits >> one & 1) == 0) {
        days.workOut(s, n, one);
        if (days.fromBare(n) == 0) {
          bits |= 1 << one;
        }
      }
    }
    return bits;
  }

  public int alike(int ab, int k) {
    Sill a = sillAt(ab / 10);
    Sill b = sillAt(ab % 10);
    if (a == null || b == null || k < -1) {
      return BAD;
    }
    measureAlike(a.dust, b.dust);
    int length = longestFrom(0, 0);
    if (k < 0) {
      return length;
    }
    return k < length ? kthAlike(a.dust, b.dust, k) : NOT;
  }

  public int same(int ab) {
    Sill a = sillAt(ab / 10);
    Sill b = sillAt(ab % 10);
    if (a == null || b == null) {
      return BAD;
    }
    if (a.dust.layers != b.dust.layers) {
      return 0;
    }
    for (int i = 0; i < a.dust.layers; i++) {
      if (a.dust.whom[i] != b.dust.whom[i]) {
        return 0;
      }
    }
    return 1;
  }

  public long likely(int one, int part) {
    if (!isOne(one) || !isWithin(part, 1)) {
      return BAD_LONG;
    }
    int all = 0;
    for (int other = 0; other < PEOPLE; other++) {
      all += weightOf(other);
    }
    if (all == 0) {
      return part;
    }
    int his = weightOf(one);
    int common = greatestCommon(all, his);
    return (part == 0 ? his : all) / common;
  }

  public int expected() {
    int best = NOT;
    int most = 0;
    for (int one = 0; one < PEOPLE; one++) {
      int weight = weightOf(one);
      if (weight > most) {
        best = one;
        most = weight;
      }
    }
    return best;
  }

  public int judge(int shelf, int sill) {
    Sill s = sillAt(sill);
    if (s == null || !isShelf(shelf)) {
      return BAD;
    }
    int refused = refusalOfBytes(shelf);
    if (refused < 0) {
      return refused;
    }
    Shelf told = shelves[shelf];
    int both = Math.min(told.size, s.dust.layers);
    for (int i = 0; i < both; i++) {
      if (told.elements[i] != s.dust.whom[i]) {
        return i;
      }
    }
    return told.size == s.dust.layers ? NOT : both;
  }

  public int drawn(int seed, int nm, int sill, int whom) {
    Sill s = sillAt(sill);
    int years = nm / 100;
    int length = nm % 100;
    if (s == null || years < 1 || years > YEARS || length < 1 || length > YEAR) {
      return BAD;
    }
    if (whom != NOBODY && !isOne(whom)) {
      return BAD;
    }
    int z = seed;
    int sum = 0;
    for (int year = 0; year < years; year++) {
      thought.become(s.dust);
      for (int i = 0; i < length; i++) {
        z = z * 1103515245 + 12345;
        s.layOn(thought, (z >>> 8) % PEOPLE, (z >>> 16) % AMOUNTS);
      }
      if (whom == NOBODY) {
        sum += thought.layers;
      } else if (thought.uppermost() == whom) {
        sum++;
      }
    }
    return sum;
  }

  // ---- in deed

  public int look(int looking) {
    if (!isLooking(looking)) {
      return BAD;
    }
    int grains = 0;
    for (int i = 0; i < sillsHere; i++) {
      Sill s = house[i];
      grains += s.layOn(s.dust, whomOf(looking), muchOf(looking));
    }
    ledger[LED_LOOKINGS]++;
    ledger[LED_LAID] += grains;
    return grains;
  }

  public int blow(int sill, int v) {
    Sill s = sillAt(sill);
    if (s == null || !isWithin(v, BREATH)) {
      return BAD;
    }
    int grains = s.dust.takeFromAbove(v);
    ledger[LED_BREATHED] += grains;
    return grains;
  }

  public int sweep(int sill) {
    Sill s = sillAt(sill);
    if (s == null) {
      return BAD;
    }
    int grains = s.dust.allThick();
    s.dust.layers = 0;
    ledger[LED_SWEPT] += grains;
    ledger[LED_SWEEPINGS]++;
    return grains;
  }

  public int led(int what) {
    return isWithin(what, LEDGER - 1) ? ledger[what] : BAD;
  }

  public int image() {
    // no SILL ever goes, so those that are not here yet are bare in every image
    for (int i = 0; i < sillsHere; i++) {
      kept.dust[i].become(house[i].dust);
    }
    System.arraycopy(ledger, 0, kept.ledger, 0, LEDGER);
    kept.isThere = true;
    return ledger[LED_LOOKINGS];
  }

  public int back() {
    if (!kept.isThere) {
      return STATE;
    }
    for (int i = 0; i < sillsHere; i++) {
      house[i].dust.become(kept.dust[i]);
    }
    System.arraycopy(kept.ledger, 0, ledger, 0, LEDGER);
    return ledger[LED_LOOKINGS];
  }

  public int undo() {
    int i = changes.done - 1;
    if (i < 0 || i >= CHANGES) {
      return STATE;
    }
    setNumber(changes.number[i], changes.what[i], changes.was[i]);
    changes.done = i;
    return i;
  }

  public int redo() {
    int i = changes.done;
    if (i < 0 || i >= changes.known || i >= CHANGES) {
      return STATE;
    }
    setNumber(changes.number[i], changes.what[i], changes.became[i]);
    changes.done = i + 1;
    return changes.known - changes.done;
  }

  // ---- acts, shelves

  public int body(int kind) {
    if (!isWithin(kind, KINDS - 1)) {
      return BAD;
    }
    return bodies.add(kind);
  }

  public int act(int body, int act, int x) {
    bodies.ran = 0;
    if (!bodies.has(body) || !isWithin(act, ACTS - 1)) {
      return 0;
    }
    return bodies.run(body, bodies.kinds[body], act, x, 0);
  }

  public int trace(int i) {
    return i >= 0 && i < TRACE && i < bodies.ran ? bodies.traced[i] : BAD;
  }

  public int keep(int shelf, int body) {
    if (!isShelf(shelf) || (body != NOBODY && !bodies.has(body))) {
      return BAD;
    }
    Shelf onto = shelves[shelf];
    onto.holding = body == NOBODY ? Shelf.NOTHING : Shelf.BODY;
    onto.body = body;
    return 1;
  }

  public int row(int shelf, int sort, int n) {
    if (!isShelf(shelf) || !isWithin(sort, SORTS - 1) || n > ROW) {
      return BAD;
    }
    if (n < 0) {
      return SIZE_BELOW_0;
    }
    Shelf onto = shelves[shelf];
    onto.holding = Shelf.ROW_OF_NUMBERS;
    onto.sort = sort;
    onto.size = n;
    Arrays.fill(onto.elements, 0L);
    return 1;
  }

  public int put(int shelf, int i, long v) {
    int refused = refusalOfPlace(shelf, i);
    if (refused < 0) {
      return refused;
    }
    Shelf onto = shelves[shelf];
    onto.elements[i] = onto.lowestBits(v);
    return 1;
  }

  public long element(int shelf, int i) {
    return refusalOfPlace(shelf, i) < 0 ? BAD_LONG : shelves[shelf].elements[i];
  }

  public int shift(int shelf, int i, int other, int j, int n) {
    if (!isShelf(shelf) || !isShelf(other)) {
      return BAD;
    }
    Shelf from = shelves[shelf];
    Shelf to = shelves[other];
    if (from.holding == Shelf.NOTHING || to.holding == Shelf.NOTHING) {
      return NOTHING_THERE;
    }
    if (!from.isRow() || !to.isRow() || from.sort != to.sort) {
      return OTHER_KIND;
    }
    if (!from.hasPlaces(i, n) || !to.hasPlaces(j, n)) {
      return NO_PLACE;
    }
    System.arraycopy(from.elements, i, to.elements, j, n);
    return n;
  }

  public int taken(int shelf, int k) {
    if (!isShelf(shelf) || !isWithin(k, KINDS - 1)) {
      return BAD;
    }
    Shelf from = shelves[shelf];
    if (from.holding == Shelf.NOTHING) {
      return NOTHING_THERE;
    }
    if (from.holding != Shelf.BODY || !bodies.has(from.body)) {
      return OTHER_KIND;
    }
    int kind = bodies.kinds[from.body];
    return Bodies.isUnder(kind, k) ? kind : OTHER_KIND;
  }

  public int count(int what) {
    switch (what) {
      case 0:
        return sillsHere;
      case 1:
        return tape.length;
      case 2:
        return changes.done;
      case 3:
        return bodies.here;
      case 4:
        return bodies.ran;
      default:
        return BAD;
    }
  }

  // ---- what may be told

  private static boolean isWithin(int v, int most) {
    return v >= 0 && v <= most;
  }

  private static boolean isOne(int one) {
    return isWithin(one, PEOPLE - 1);
  }

  private static boolean isShelf(int shelf) {
    return isWithin(shelf, SHELVES - 1);
  }

  private static boolean isLooking(int looking) {
    return isWithin(looking, LAST_LOOKING);
  }

  private boolean isMendable(int number, int what) {
    switch (what) {
      case HIGH:
      case DRAUGHT:
        return sillAt(number) != null;
      case MISS:
        return isOne(number);
      case SEASON:
        return number == 0;
      default:
        return false;
    }
  }

  private Sill sillAt(int number) {
    return number >= 0 && number < sillsHere && number < SILLS ? house[number] : null;
  }

  /** Why a SHELF can't be read as a ROW of bytes; 0: it can. */
  private int refusalOfBytes(int shelf) {
    if (shelves[shelf].holding == Shelf.NOTHING) {
      return NOTHING_THERE;
    }
    return shelves[shelf].isBytes() ? 0 : OTHER_KIND;
  }

  /** Why a SHELF has no ROW's element i; 0: it has. */
  private int refusalOfPlace(int shelf, int i) {
    if (!isShelf(shelf)) {
      return BAD;
    }
    if (shelves[shelf].holding == Shelf.NOTHING) {
      return NOTHING_THERE;
    }
    if (!shelves[shelf].isRow()) {
      return OTHER_KIND;
    }
    return shelves[shelf].hasPlaces(i, 1) ? 0 : NO_PLACE;
  }

  // ---- numbers that can be mended

  private int numberOf(int number, int what) {
    Sill s = sillAt(number);
    switch (what) {
      case HIGH:
        return s == null ? BAD : s.high;
      case DRAUGHT:
        return s == null ? BAD : s.draught;
      case MISS:
        return isOne(number) ? misses[number] : BAD;
      default:
        return ruling.season;
    }
  }

  private void setNumber(int number, int what, int v) {
    if (what == SEASON) {
      ruling.season = v;
      forgetAll();
    } else if (what == MISS && isOne(number)) {
      misses[number] = v;
    } else {
      setSill(sillAt(number), what, v);
    }
  }

  private static void setSill(Sill s, int what, int v) {
    if (s == null) {
      return;
    }
    if (what == HIGH) {
      s.high = v;
    } else if (what == DRAUGHT) {
      s.draught = v;
    }
    s.forget();
  }

  private void forgetAll() {
    for (int i = 0; i < sillsHere; i++) {
      house[i].forget();
    }
  }

  // ---- lookings

  private static int whomOf(int looking) {
    return looking < LOOKINGS ? looking / AMOUNTS : looking - LOOKINGS;
  }

  private int muchOf(int looking) {
    return looking < LOOKINGS ? looking % AMOUNTS : misses[looking - LOOKINGS];
  }

  /** Lays a BOOK's first n LOOKINGS on a SILL in thought: how many of them lay nothing. */
  private int thinkBook(Sill s, Shelf book, int n) {
    thought.become(s.dust);
    int bare = 0;
    for (int i = 0; i < n && i < BOOK && i < book.size; i++) {
      int looking = (int) book.elements[i];
      if (!isLooking(looking)) {
        break;
      }
      int one = whomOf(looking);
      int much = muchOf(looking);
      if (s.gives(thought.layers, one, much) == 0) {
        bare++;
      }
      s.layOn(thought, one, much);
    }
    return bare;
  }

  // ---- who is told where

  /** The SILLS (bits) of which any of the told PEOPLE (bits) is READ. */
  private int sillsThatRead(int set) {
    int bits = 0;
    for (int i = 0; i < sillsHere; i++) {
      if ((house[i].dust.readBits() & set) != 0) {
        bits |= 1 << i;
      }
    }
    return bits;
  }

  private int fewestThatTell(int set) {
    int best = NOT;
    for (int some = 0; some < 1 << sillsHere; some++) {
      boolean isFewer = best < 0 || Integer.bitCount(some) < Integer.bitCount(best);
      if (isFewer && (set & ~readOf(some)) == 0) {
        best = some;
      }
    }
    return best;
  }

  /** Who (bits) is READ of some SILLS (bits). */
  private int readOf(int some) {
    int bits = 0;
    for (int i = 0; i < sillsHere; i++) {
      if ((some >> i & 1) != 0) {
        bits |= house[i].dust.readBits();
      }
    }
    return bits;
  }

  private int weightOf(int one) {
    int sum = 0;
    for (int i = 0; i < sillsHere; i++) {
      Dust dust = house[i].dust;
      for (int k = 0; k < dust.layers; k++) {
        if (dust.whom[k] == one) {
          sum += dust.thick[k] * (LAYERS + 1 - (dust.layers - 1 - k));
        }
      }
    }
    return sum;
  }

  private static int greatestCommon(int a, int b) {
    int more = a;
    int less = b;
    // of two ints fewer than 64 steps are ever needed
    for (int i = 0; i < 64 && less > 0; i++) {
      int rest = more % less;
      more = less;
      less = rest;
    }
    return Math.max(more, 1);
  }

  // ---- orders that two sills have alike

  /** Works out how long the longest order is that both have behind each pair of places. */
  private void measureAlike(Dust a, Dust b) {
    Arrays.fill(longest, 0);
    for (int i = a.layers - 1; i >= 0; i--) {
      for (int j = b.layers - 1; j >= 0; j--) {
        int length = Math.max(longestFrom(i + 1, j), longestFrom(i, j + 1));
        if (a.whom[i] == b.whom[j]) {
          length = 1 + longestFrom(i + 1, j + 1);
        }
        longest[i * (LAYERS + 1) + j] = length;
      }
    }
  }

  private int longestFrom(int i, int j) {
    boolean isThere = isWithin(i, LAYERS) && isWithin(j, LAYERS);
    return isThere ? longest[i * (LAYERS + 1) + j] : 0;
  }

  private int kthAlike(Dust a, Dust b, int k) {
    int i = 0;
    int j = 0;
    int chosen = NOT;
    for (int step = 0; step <= k && step < LAYERS; step++) {
      chosen = nextAlike(a, b, i, j);
      if (chosen < 0) {
        return NOT;
      }
      i = a.nextOf(chosen, i) + 1;
      j = b.nextOf(chosen, j) + 1;
    }
    return chosen;
  }

  /** The least one with whom a longest order of what lies from i, j on can begin. */
  private int nextAlike(Dust a, Dust b, int i, int j) {
    for (int one = 0; one < PEOPLE; one++) {
      int p = a.nextOf(one, i);
      int q = b.nextOf(one, j);
      if (p >= 0 && q >= 0 && 1 + longestFrom(p + 1, q + 1) == longestFrom(i, j)) {
        return one;
      }
    }
    return NOT;
  }

  /** LAYERS that lie on a SILL, in deed or in thought, the lowest first. */
  private static final class Dust {
    final int[] whom = new int[LAYERS];
    final int[] thick = new int[LAYERS];
    int layers;

    void become(Dust other) {
      System.arraycopy(other.whom, 0, whom, 0, LAYERS);
      System.arraycopy(other.thick, 0, thick, 0, LAYERS);
      layers = other.layers;
    }

    /** WHOM (what 0), THICK (1) of the k-th LAYER. */
    int tells(int k, int what) {
      if (k < 0 || k >= layers) {
        return NOT;
      }
      return what == 0 ? whom[k] : thick[k];
    }

    int uppermost() {
      return tells(layers - 1, 0);
    }

    /** Lays so much for one: how much THICKER the laid LAYER is. */
    int settle(int one, int much) {
      if (much <= 0) {
        return 0;
      }
      if (uppermost() == one) {
        int was = thick[layers - 1];
        thick[layers - 1] = Math.min(was + much, THICKEST);
        return thick[layers - 1] - was;
      }
      if (layers >= LAYERS) {
        press();
      }
      whom[layers] = one;
      thick[layers] = much;
      layers++;
      return much;
    }

    private void press() {
      thick[0] = Math.min(thick[0] + thick[1], THICKEST);
      for (int i = 1; i < LAYERS - 1; i++) {
        whom[i] = whom[i + 1];
        thick[i] = thick[i + 1];
      }
      layers = LAYERS - 1;
    }

    int takeFromAbove(int v) {
      int left = v;
      for (int k = layers - 1; k >= 0 && left > 0; k--) {
        int off = Math.min(left, thick[k]);
        thick[k] -= off;
        left -= off;
        if (thick[k] == 0) {
          layers = k;
        }
      }
      return v - left;
    }

    int allThick() {
      return thickFrom(0);
    }

    /** THICK of the k-th LAYER and of all above it; 0: there is no such LAYER. */
    int thickFrom(int k) {
      if (k < 0) {
        return 0;
      }
      int sum = 0;
      for (int i = k; i < layers; i++) {
        sum += thick[i];
      }
      return sum;
    }

    int readBits() {
      int bits = 0;
      for (int i = 0; i < layers; i++) {
        bits |= 1 << whom[i];
      }
      return bits;
    }

    /** The lowest LAYER of one, from the k-th on; NOT. */
    int nextOf(int one, int k) {
      for (int i = Math.max(k, 0); i < layers; i++) {
        if (whom[i] == one) {
          return i;
        }
      }
      return NOT;
    }

    int unlikeFromAbove(int k) {
      int seen = 0;
      int met = 0;
      for (int i = layers - 1; i >= 0; i--) {
        if ((seen >> whom[i] & 1) == 0) {
          if (met == k) {
            return whom[i];
          }
          seen |= 1 << whom[i];
          met++;
        }
      }
      return NOT;
    }

    int ofWhomMost() {
      int best = NOT;
      int most = 0;
      for (int one = 0; one < PEOPLE; one++) {
        int his = thickOf(one);
        if (his > most) {
          best = one;
          most = his;
        }
      }
      return best;
    }

    private int thickOf(int one) {
      int sum = 0;
      for (int i = 0; i < layers; i++) {
        if (whom[i] == one) {
          sum += thick[i];
        }
      }
      return sum;
    }
  }

  /** A SILL; what THE LAW gives there is worked out once and remembered until a number changes. */
  private static final class Sill {
    final Law ruling;
    final Dust dust = new Dust();
    final byte[] oneMoreThanGiven = new byte[(LAYERS + 1) * LOOKINGS];
    int high;
    int draught;

    Sill(Law ruling, int high, int draught) {
      this.ruling = ruling;
      this.high = high;
      this.draught = draught;
    }

    int gives(int lying, int one, int much) {
      int place = (lying * PEOPLE + one) * AMOUNTS + much;
      if (place < 0 || place >= oneMoreThanGiven.length) {
        return 0;
      }
      if (oneMoreThanGiven[place] == 0) {
        int value = ruling.worth(much, high, draught, lying, one);
        oneMoreThanGiven[place] = (byte) (1 + Math.max(0, Math.min(value, MOST_NUMBER)));
      }
      return oneMoreThanGiven[place] - 1;
    }

    int layOn(Dust under, int one, int much) {
      return under.settle(one, gives(under.layers, one, much));
    }

    void forget() {
      Arrays.fill(oneMoreThanGiven, (byte) 0);
    }
  }

  /** THE LAW, as numbers, NAMES and signs, each sign behind what it joins. */
  private static final class Law {
    static final int NAMED = 10000, DOES = 20000;
    static final int NAMES = 6;
    static final int WHETHER = DOES + '?', LINE_ENDS = DOES + ';', NEGATE = DOES + '~', DENY = DOES + '!';

    final int[] code = new int[TAPE + 1];
    int size;
    int season;
    private final int[] named = new int[NAMES];
    private final int[] stack = new int[TAPE + 1];
    private int held;

    void add(int step) {
      if (size < code.length) {
        code[size] = step;
        size++;
      }
    }

    /** Takes another's text; the season stays. */
    void become(Law other) {
      System.arraycopy(other.code, 0, code, 0, code.length);
      size = other.size;
    }

    int worth(int much, int high, int draught, int lying, int one) {
      if (size == 0) {
        return Math.max(much - draught / 3, 0);
      }
      named[0] = much;
      named[1] = high;
      named[2] = draught;
      named[3] = season;
      named[4] = lying;
      named[5] = one;
      held = 0;
      for (int i = 0; i < size; i++) {
        int step = code[i];
        if (step == LINE_ENDS) {
          return pop();
        }
        if (step != WHETHER) {
          work(step);
        } else if (pop() == 0) {
          i = endOfLine(i);
        }
      }
      return 0;
    }

    private int endOfLine(int from) {
      int i = from;
      while (i < size && code[i] != LINE_ENDS) {
        i++;
      }
      return i;
    }

    private void work(int step) {
      if (step < NAMED) {
        push(step);
      } else if (step < NAMED + NAMES) {
        push(named[step - NAMED]);
      } else if (step == NEGATE) {
        push(-pop());
      } else if (step == DENY) {
        push(pop() == 0 ? 1 : 0);
      } else {
        int b = pop();
        int a = pop();
        push(joined(step - DOES, a, b));
      }
    }

    private static int joined(int sign, int a, int b) {
      switch (sign) {
        case '|':
          return a != 0 || b != 0 ? 1 : 0;
        case '&':
          return a != 0 && b != 0 ? 1 : 0;
        case '<':
          return a < b ? 1 : 0;
        case '=':
          return a == b ? 1 : 0;
        case '>':
          return a > b ? 1 : 0;
        case '+':
          return a + b;
        case '-':
          return a - b;
        case '*':
          return a * b;
        case '/':
          return b == 0 ? 0 : a / b;
        default:
          return b == 0 ? 0 : a % b;
      }
    }

    private void push(int v) {
      if (held < stack.length) {
        stack[held] = v;
        held++;
      }
    }

    private int pop() {
      if (held <= 0) {
        return 0;
      }
      held--;
      return stack[held];
    }
  }

  /** THE TAPE, and how a TEXT is read from it. */
  private static final class Tape {
    // the parts of a TEXT by how tightly their signs join: E, A, B, S, P; then comes O
    static final int ANY = 0, ALL = 1, COMPARED = 2, SUM = 3, PRODUCT = 4;
    static final int NONE = -1;

    private final int[] bytes = new int[TAPE];
    int length;
    private int at;
    private int fault;
    private Law into;

    boolean add(int letter) {
      if (length >= TAPE) {
        return false;
      }
      bytes[length] = letter;
      length++;
      return true;
    }

    /** Reads THE TAPE: its FAULT; NONE: it is a TEXT. */
    int readInto(Law law) {
      into = law;
      into.size = 0;
      at = 0;
      fault = NONE;
      readLine();
      for (int lines = 1; lines <= TAPE && fault == NONE && at < length; lines++) {
        if (passes(';')) {
          readLine();
        } else {
          fault = at;
        }
      }
      return fault;
    }

    private void readLine() {
      readPart(ANY, 0);
      if (passes('?')) {
        into.add(Law.WHETHER);
        readPart(ANY, 0);
      }
      into.add(Law.LINE_ENDS);
    }

    /** Reads a part and its signs; open: how many of ( ! - are. */
    private void readPart(int part, int open) {
      readTighter(part, open);
      int most = part == COMPARED ? 1 : TAPE;
      for (int i = 0; i < most && fault == NONE && partOfSign() == part; i++) {
        int sign = bytes[at];
        at++;
        readTighter(part, open);
        into.add(Law.DOES + sign);
      }
    }

    /** Reads what a part's signs join. */
    private void readTighter(int part, int open) {
      if (part < PRODUCT) {
        readPart(part + 1, open);
      } else {
        readOperand(open);
      }
    }

    private void readOperand(int open) {
      if (fault != NONE) {
        return;
      }
      int letter = at < length ? bytes[at] : NONE;
      int name = nameOf(letter);
      if (letter >= '0' && letter <= '9') {
        readNumber();
      } else if (name != NONE) {
        at++;
        into.add(Law.NAMED + name);
      } else if (open < OPEN && (letter == '(' || letter == '!' || letter == '-')) {
        at++;
        readOpened(letter, open + 1);
      } else {
        fault = at;
      }
    }

    private void readOpened(int sign, int open) {
      if (sign != '(') {
        readOperand(open);
        into.add(sign == '!' ? Law.DENY : Law.NEGATE);
        return;
      }
      readPart(ANY, open);
      if (fault == NONE && !passes(')')) {
        fault = at;
      }
    }

    private void readNumber() {
      int value = 0;
      for (int i = 0; i < DIGITS && at < length && bytes[at] >= '0' && bytes[at] <= '9'; i++) {
        value = value * 10 + bytes[at] - '0';
        at++;
      }
      into.add(value);
    }

    private boolean passes(int letter) {
      if (fault != NONE || at >= length || bytes[at] != letter) {
        return false;
      }
      at++;
      return true;
    }

    private int partOfSign() {
      switch (at < length ? bytes[at] : NONE) {
        case '|':
          return ANY;
        case '&':
          return ALL;
        case '<':
        case '=':
        case '>':
          return COMPARED;
        case '+':
        case '-':
          return SUM;
        case '*':
        case '/':
        case '%':
          return PRODUCT;
        default:
          return NONE;
      }
    }

    private static int nameOf(int letter) {
      switch (letter) {
        case 'n':
          return 0;
        case 'h':
          return 1;
        case 'g':
          return 2;
        case 's':
          return 3;
        case 'k':
          return 4;
        case 'w':
          return 5;
        default:
          return NONE;
      }
    }
  }

  /**
   * DAYS read back. As n is at most 9, nothing is pressed and nothing reaches 99; so every way goes
   * through parts of what lies, from below, and a part is told by how many grains it has: its PLACE.
   */
  private static final class Days {
    static final int GRAINS = DAYS * MOST_NUMBER, PLACES = GRAINS + 1;

    // by LOOKINGS left and place: how many ways lead from there to all
    private final long[] ways = new long[(DAYS + 1) * PLACES];
    // by number of LAYERS: how many grains the lowest ones have
    private final int[] grainsOf = new int[LAYERS + 1];
    // by number of LAYERS: how many LOOKINGS lay nothing
    private final int[] idle = new int[LAYERS + 1];
    // by number of LAYERS and grains: how many LOOKINGS lay so much on the uppermost, on the next one
    private final int[] thickening = new int[(LAYERS + 1) * AMOUNTS];
    private final int[] beginning = new int[(LAYERS + 1) * AMOUNTS];
    private int layers;
    private int grains;

    /** Works out the ways of 0 to n LOOKINGS, none of them for one told (or NOBODY). */
    void workOut(Sill s, int n, int without) {
      layers = s.dust.layers;
      grains = s.dust.allThick();
      Arrays.fill(ways, 0L);
      if (grains > GRAINS) {
        return;
      }
      Arrays.fill(idle, 0);
      Arrays.fill(thickening, 0);
      Arrays.fill(beginning, 0);
      for (int k = 0; k <= layers; k++) {
        grainsOf[k] = k == 0 ? 0 : grainsOf[k - 1] + s.dust.thick[k - 1];
        sortLookings(s, k, without);
      }
      ways[grains] = 1;
      for (int left = 1; left <= n && left <= DAYS; left++) {
        workOutWith(left);
      }
    }

    long fromBare(int n) {
      return waysFrom(0, n);
    }

    /** The first LOOKING behind which so many left still lead to all; NOT. */
    int firstLooking(Sill s, int place, int left) {
      for (int looking = 0; looking < LOOKINGS; looking++) {
        if (waysFrom(placeBehind(s, place, looking), left) > 0) {
          return looking;
        }
      }
      return NOT;
    }

    /** The place behind one more LOOKING; NOT: what lies then is no part of all. */
    int placeBehind(Sill s, int place, int looking) {
      int k = layersAt(place);
      int one = looking / AMOUNTS;
      int laid = s.gives(k, one, looking % AMOUNTS);
      if (laid == 0) {
        return place;
      }
      if (s.dust.tells(k - 1, 0) == one) {
        return place + laid <= grainsOf[k] ? place + laid : NOT;
      }
      return s.dust.tells(k, 0) == one && mayBegin(k, place, laid) ? place + laid : NOT;
    }

    private long waysFrom(int place, int left) {
      boolean isThere = place >= 0 && place <= GRAINS && left >= 0 && left <= DAYS;
      return isThere ? ways[left * PLACES + place] : 0;
    }

    private int layersAt(int place) {
      int k = 0;
      while (k < layers && grainsOf[k] < place) {
        k++;
      }
      return k;
    }

    private void sortLookings(Sill s, int k, int without) {
      int uppermost = s.dust.tells(k - 1, 0);
      int next = s.dust.tells(k, 0);
      for (int looking = 0; looking < LOOKINGS; looking++) {
        int one = looking / AMOUNTS;
        if (one == without) {
          continue;
        }
        int laid = s.gives(k, one, looking % AMOUNTS);
        if (laid == 0) {
          idle[k]++;
        } else if (one == uppermost) {
          thickening[k * AMOUNTS + laid]++;
        } else if (one == next) {
          beginning[k * AMOUNTS + laid]++;
        }
      }
    }

    private void workOutWith(int left) {
      // places with more to come than the LOOKINGS left can lay have no ways
      for (int place = Math.max(0, grains - left * MOST_NUMBER); place <= grains; place++) {
        int k = layersAt(place);
        long sum = idle[k] * waysFrom(place, left - 1);
        for (int laid = 1; laid < AMOUNTS && place + laid <= grains; laid++) {
          int lookings = lookingsThatLay(k, place, laid);
          if (lookings > 0) {
            sum += lookings * waysFrom(place + laid, left - 1);
          }
        }
        ways[left * PLACES + place] = sum;
      }
    }

    /** How many LOOKINGS lay so much there that it stays a part of all. */
    private int lookingsThatLay(int k, int place, int laid) {
      if (place + laid <= grainsOf[k]) {
        return thickening[k * AMOUNTS + laid];
      }
      return mayBegin(k, place, laid) ? beginning[k * AMOUNTS + laid] : 0;
    }

    private boolean mayBegin(int k, int place, int laid) {
      return k < layers && place == grainsOf[k] && place + laid <= grainsOf[k + 1];
    }
  }

  /** What lay and what was LED when AN IMAGE was kept. */
  private static final class Image {
    final Dust[] dust = new Dust[SILLS];
    final int[] ledger = new int[LEDGER];
    boolean isThere;

    Image() {
      for (int i = 0; i < SILLS; i++) {
        dust[i] = new Dust();
      }
    }
  }

  /** CHANGES: the first ones are done, those behind are undone. */
  private static final class Changes {
    final int[] number = new int[CHANGES];
    final int[] what = new int[CHANGES];
    final int[] was = new int[CHANGES];
    final int[] became = new int[CHANGES];
    int done;
    int known;

    void keepNew(int ofNumber, int ofWhat, int before, int behind) {
      if (done >= CHANGES) {
        dropOldest();
      }
      number[done] = ofNumber;
      what[done] = ofWhat;
      was[done] = before;
      became[done] = behind;
      done++;
      known = done;
    }

    private void dropOldest() {
      System.arraycopy(number, 1, number, 0, CHANGES - 1);
      System.arraycopy(what, 1, what, 0, CHANGES - 1);
      System.arraycopy(was, 1, was, 0, CHANGES - 1);
      System.arraycopy(became, 1, became, 0, CHANGES - 1);
      done = CHANGES - 1;
    }
  }

  /** BODIES, their KINDS and ACTS. */
  private static final class Bodies {
    static final int LIES = 0, READS = 1, FALLS = 2, TELLS = 3;
    // by KIND: the KIND above
    private static final int[] ABOVE = {-1, 0, 0, 2, 1, 3, 0, 6};
    // by KIND, then by ACT: the number of the body that this KIND has itself; 0: none
    private static final int[] OWN = {
      1, 10, 11, 2,
      20, 0, 0, 0,
      0, 30, 0, 0,
      0, 41, 40, 0,
      0, 0, 0, 50,
      0, 0, 60, 61,
      70, 0, 0, 0,
      81, 80, 0, 0
    };

    final int[] kinds = new int[BODIES];
    int here;
    final int[] traced = new int[TRACE];
    int ran;

    int add(int kind) {
      if (here >= BODIES) {
        return FULL;
      }
      kinds[here] = kind;
      here++;
      return here - 1;
    }

    boolean has(int n) {
      return n >= 0 && n < here && n < BODIES;
    }

    static boolean isUnder(int kind, int top) {
      int k = kind;
      for (int i = 0; i < KINDS && k >= 0; i++) {
        if (k == top) {
          return true;
        }
        k = ABOVE[k];
      }
      return false;
    }

    /** Runs an ACT of BODY n by the body that its KIND from on, or the next above, has. */
    private int run(int n, int from, int act, int x, int depth) {
      int kind = from;
      for (int i = 0; i < KINDS && kind >= 0 && OWN[kind * ACTS + act] == 0; i++) {
        kind = ABOVE[kind];
      }
      if (kind < 0 || depth >= ACTS_DEEP) {
        return 0;
      }
      int number = OWN[kind * ACTS + act];
      if (ran < TRACE) {
        traced[ran] = number;
      }
      ran++;
      return worked(number, n, ABOVE[kind], x, depth + 1);
    }

    private int worked(int number, int n, int above, int x, int depth) {
      int own = kinds[n];
      switch (number) {
        case 1:
          return x + n;
        case 10:
          return run(n, own, LIES, x, depth) * 2;
        case 11:
          return x ^ n;
        case 2:
          return run(n, own, READS, x, depth) - run(n, own, FALLS, 1, depth);
        case 20:
          return run(n, above, LIES, x, depth) + 3;
        case 30:
          return -run(n, above, READS, x, depth);
        case 40:
          return run(n, above, FALLS, x, depth) * 3;
        case 41:
          return run(n, above, READS, x + 1, depth);
        case 50:
          return run(n, above, TELLS, x, depth) ^ 5;
        case 60:
          return run(n, above, FALLS, x, depth) - run(n, own, LIES, 2, depth);
        case 61:
          return run(n, above, TELLS, x, depth) + 1;
        case 70:
          return run(n, above, LIES, x, depth) * 2;
        case 80:
          return run(n, above, READS, x, depth) + run(n, own, FALLS, 2, depth);
        default:
          return run(n, above, LIES, x, depth) - 1;
      }
    }
  }

  /** A SHELF. Its elements are made once and used for every ROW that it holds. */
  private static final class Shelf {
    static final int NOTHING = 0, BODY = 1, ROW_OF_NUMBERS = 2;
    static final int BYTES = 0, SHORTS = 1, INTS = 2, LONGS = 3;

    int holding;
    int body;
    int sort;
    int size;
    final long[] elements = new long[ROW];

    boolean isRow() {
      return holding == ROW_OF_NUMBERS;
    }

    boolean isBytes() {
      return isRow() && sort == BYTES;
    }

    boolean hasPlaces(int i, int n) {
      return i >= 0 && n >= 0 && n <= size && i <= size - n;
    }

    long lowestBits(long v) {
      switch (sort) {
        case BYTES:
          return (byte) v;
        case SHORTS:
          return (short) v;
        case INTS:
          return (int) v;
        case LONGS:
          return v;
        default:
          return v != 0 ? 1 : 0;
      }
    }
  }
}
