import java.util.ArrayList;
import java.util.Arrays;
import java.util.Collections;
import java.util.HashMap;
import java.util.List;
import java.util.Map;
import java.util.Random;

/**
 * Long runs of drawn calls, asked of DustInOrder and of a slow model that works everything out
 * straight from the document's words, by other means than the class. Seeds are fixed: the runs are
 * always the same ones.
 */
public final class OracleRuns {
  static final int BAD = -1, NOT = -2, FULL = -3, STATE = -5;
  static final int CALLS = 512;

  // ---- the model

  static final class Model {
    static final class Sill {
      int high, draught;
      List<int[]> layers = new ArrayList<>();
    }

    final List<Sill> sills = new ArrayList<>();
    final int[] miss = {5, 5, 5, 5, 5, 5};
    int season;
    StringBuilder tape = new StringBuilder();
    String law;
    int[] led = new int[5];
    int[] imageLed;
    List<List<int[]>> image;
    final List<int[]> done = new ArrayList<>();
    final List<int[]> undone = new ArrayList<>();
    final List<Integer> bodies = new ArrayList<>();
    final List<Integer> trace = new ArrayList<>();
    // a shelf: null, an Integer (a BODY), or a Row
    final Object[] shelves = new Object[6];
    final Map<String, Integer> given = new HashMap<>();

    static final class Row {
      int sort;
      List<Long> elements = new ArrayList<>();
    }

    // -- the law

    /** Walks byte by byte: what is open, and whether an O or something behind one comes next. */
    static int faultOf(String t) {
      List<Character> open = new ArrayList<>();
      List<Boolean> comparedOutside = new ArrayList<>();
      boolean operandNext = true, compared = false, asked = false;
      int digits = 0;
      for (int i = 0; i < t.length(); i++) {
        char c = t.charAt(i);
        if (operandNext) {
          if (c == '(' || c == '!' || c == '-') {
            if (open.size() == 6) {
              return i;
            }
            open.add(c);
            if (c == '(') {
              comparedOutside.add(compared);
              compared = false;
            }
            continue;
          }
          if (Character.isDigit(c) && c < 128) {
            digits = 1;
          } else if ("nhgskw".indexOf(c) >= 0) {
            digits = 0;
          } else {
            return i;
          }
          operandNext = false;
          closeSigns(open);
          continue;
        }
        if (c >= '0' && c <= '9' && digits >= 1 && digits < 4) {
          digits++;
          continue;
        }
        digits = 0;
        if (c == ')') {
          if (open.isEmpty()) {
            return i;
          }
          open.remove(open.size() - 1);
          compared = comparedOutside.remove(comparedOutside.size() - 1);
          closeSigns(open);
          continue;
        }
        operandNext = true;
        if ("+-*/%".indexOf(c) >= 0) {
          continue;
        }
        if ("<=>".indexOf(c) >= 0 && !compared) {
          compared = true;
        } else if (c == '|' || c == '&') {
          compared = false;
        } else if (c == '?' && open.isEmpty() && !asked) {
          asked = true;
          compared = false;
        } else if (c == ';' && open.isEmpty()) {
          asked = false;
          compared = false;
        } else {
          return i;
        }
      }
      return operandNext || !open.isEmpty() ? t.length() : -1;
    }

    static void closeSigns(List<Character> open) {
      while (!open.isEmpty() && open.get(open.size() - 1) != '(') {
        open.remove(open.size() - 1);
      }
    }

    /** The rightmost place outside ( ) of one of some signs behind an O; -1. */
    static int lastOutside(String e, String signs) {
      int depth = 0;
      for (int i = e.length() - 1; i > 0; i--) {
        char c = e.charAt(i);
        depth += c == ')' ? 1 : c == '(' ? -1 : 0;
        char before = e.charAt(i - 1);
        boolean behindOperand = before == ')' || Character.isLetterOrDigit(before);
        if (depth == 0 && behindOperand && signs.indexOf(c) >= 0) {
          return i;
        }
      }
      return -1;
    }

    static int eval(String e, Map<Character, Integer> names) {
      for (String signs : new String[] {"|", "&", "<=>", "+-", "*/%"}) {
        int at = lastOutside(e, signs);
        if (at > 0) {
          long a = eval(e.substring(0, at), names), b = eval(e.substring(at + 1), names);
          switch (e.charAt(at)) {
            case '|': return a == 0 && b == 0 ? 0 : 1;
            case '&': return a == 0 || b == 0 ? 0 : 1;
            case '<': return a < b ? 1 : 0;
            case '=': return a == b ? 1 : 0;
            case '>': return a > b ? 1 : 0;
            case '+': return (int) (a + b);
            case '-': return (int) (a - b);
            case '*': return (int) (a * b);
            case '/': return b == 0 ? 0 : (int) (a / b);
            default: return b == 0 ? 0 : (int) (a % b);
          }
        }
      }
      char c = e.charAt(0);
      if (c == '!') {
        return eval(e.substring(1), names) == 0 ? 1 : 0;
      }
      if (c == '-') {
        return (int) -(long) eval(e.substring(1), names);
      }
      if (c == '(') {
        return eval(e.substring(1, e.length() - 1), names);
      }
      return names.containsKey(c) ? names.get(c) : Integer.parseInt(e);
    }

    int gives(Sill s, int k, int w, int n) {
      if (law == null) {
        return Math.max(0, n - s.draught / 3);
      }
      String key = s.high + "," + s.draught + "," + season + "," + k + "," + w + "," + n;
      Integer known = given.get(key);
      if (known != null) {
        return known;
      }
      Map<Character, Integer> names = new HashMap<>();
      names.put('n', n);
      names.put('h', s.high);
      names.put('g', s.draught);
      names.put('s', season);
      names.put('k', k);
      names.put('w', w);
      int value = 0;
      for (String line : law.split(";")) {
        int q = line.indexOf('?');
        if (q < 0 || eval(line.substring(0, q), names) != 0) {
          value = eval(line.substring(q + 1), names);
          break;
        }
      }
      value = value < 0 ? 0 : value > 9 ? 9 : value;
      given.put(key, value);
      return value;
    }

    // -- layers

    static List<int[]> copy(List<int[]> layers) {
      List<int[]> c = new ArrayList<>();
      for (int[] l : layers) {
        c.add(l.clone());
      }
      return c;
    }

    int settle(Sill s, List<int[]> layers, int w, int n) {
      int v = gives(s, layers.size(), w, n);
      if (v == 0) {
        return 0;
      }
      if (!layers.isEmpty()) {
        int[] top = layers.get(layers.size() - 1);
        if (top[0] == w) {
          int was = top[1];
          top[1] = Math.min(99, was + v);
          return top[1] - was;
        }
      }
      layers.add(new int[] {w, v});
      if (layers.size() == 13) {
        int[] second = layers.remove(1);
        layers.get(0)[1] = Math.min(99, layers.get(0)[1] + second[1]);
      }
      return v;
    }

    static int sum(List<int[]> layers) {
      int t = 0;
      for (int[] l : layers) {
        t += l[1];
      }
      return t;
    }

    static int bits(List<int[]> layers) {
      int b = 0;
      for (int[] l : layers) {
        b |= 1 << l[0];
      }
      return b;
    }

    static int most(List<int[]> layers) {
      int[] t = new int[6];
      for (int[] l : layers) {
        t[l[0]] += l[1];
      }
      int best = NOT;
      for (int w = 5; w >= 0; w--) {
        if (t[w] > 0 && (best < 0 || t[w] >= t[best])) {
          best = w;
        }
      }
      return best;
    }

    static int take(List<int[]> layers, int v) {
      int taken = 0;
      while (taken < v && !layers.isEmpty()) {
        int[] top = layers.get(layers.size() - 1);
        top[1]--;
        taken++;
        if (top[1] == 0) {
          layers.remove(layers.size() - 1);
        }
      }
      return taken;
    }

    boolean is(int sill) {
      return sill >= 0 && sill < sills.size();
    }

    static boolean in(int v, int lo, int hi) {
      return lo <= v && v <= hi;
    }

    int[] looking(int l) {
      return l < 60 ? new int[] {l / 10, l % 10} : new int[] {l - 60, miss[l - 60]};
    }

    int bytesRefused(int shelf) {
      if (shelves[shelf] == null) {
        return -11;
      }
      return shelves[shelf] instanceof Row && ((Row) shelves[shelf]).sort == 0 ? 0 : -12;
    }

    // -- days

    /** By way of whole states: the sets of who is looked for (a bit a set), and how many ways. */
    static final class Ways {
      long count, sets;
    }

    Ways ways(Sill s, List<int[]> now, int left, Map<String, Ways> memo) {
      Ways r = new Ways();
      if (!isPart(now, s.layers)) {
        return r;
      }
      StringBuilder key = new StringBuilder().append(left);
      for (int[] l : now) {
        key.append(',').append(l[0]).append(':').append(l[1]);
      }
      Ways known = memo.get(key.toString());
      if (known != null) {
        return known;
      }
      if (left == 0) {
        boolean all = now.size() == s.layers.size() && sum(now) == sum(s.layers);
        r.count = all ? 1 : 0;
        r.sets = all ? 1 : 0;
      }
      for (int l = 0; left > 0 && l < 60; l++) {
        List<int[]> next = copy(now);
        settle(s, next, l / 10, l % 10);
        Ways behind = ways(s, next, left - 1, memo);
        r.count += behind.count;
        for (int set = 0; set < 64; set++) {
          if ((behind.sets >>> set & 1) != 0) {
            r.sets |= 1L << (set | 1 << l / 10);
          }
        }
      }
      memo.put(key.toString(), r);
      return r;
    }

    /** Whether all that lies can still come of what lies now (nothing is pressed in nine days). */
    static boolean isPart(List<int[]> now, List<int[]> all) {
      if (now.size() > all.size()) {
        return false;
      }
      for (int i = 0; i < now.size(); i++) {
        boolean last = i == now.size() - 1;
        if (now.get(i)[0] != all.get(i)[0] || now.get(i)[1] > all.get(i)[1]) {
          return false;
        }
        if (!last && now.get(i)[1] != all.get(i)[1]) {
          return false;
        }
      }
      return true;
    }

    // -- the calls

    int sill(int h, int d) {
      if (!in(h, 0, 9) || !in(d, 0, 9)) {
        return BAD;
      }
      if (sills.size() == 5) {
        return FULL;
      }
      Sill s = new Sill();
      s.high = h;
      s.draught = d;
      sills.add(s);
      return sills.size() - 1;
    }

    int sills(int shelf, int i, int n) {
      if (!in(shelf, 0, 5) || !in(n, 1, 5)) {
        return BAD;
      }
      if (shelves[shelf] == null) {
        return 0;
      }
      if (bytesRefused(shelf) != 0) {
        return -12;
      }
      List<Long> e = ((Row) shelves[shelf]).elements;
      int came = 0;
      for (long at = i; at >= 0 && came < n && at + 1 < e.size(); at += 2) {
        if (sill((int) (long) e.get((int) at), (int) (long) e.get((int) at + 1)) < 0) {
          break;
        }
        came++;
      }
      return came;
    }

    int get(int number, int what) {
      if (what == 0 || what == 1) {
        return !is(number) ? BAD : what == 0 ? sills.get(number).high : sills.get(number).draught;
      }
      if (what == 2) {
        return in(number, 0, 5) ? miss[number] : BAD;
      }
      return what == 3 && number == 0 ? season : BAD;
    }

    void set(int number, int what, int v) {
      if (what == 0) {
        sills.get(number).high = v;
      } else if (what == 1) {
        sills.get(number).draught = v;
      } else if (what == 2) {
        miss[number] = v;
      } else {
        season = v;
      }
    }

    int mend(int number, int what, int v) {
      int was = get(number, what);
      if (was < 0 || !in(v, 0, what == 3 ? 3 : 9)) {
        return BAD;
      }
      if (was != v) {
        done.add(new int[] {number, what, was, v});
        undone.clear();
        if (done.size() > 40) {
          done.remove(0);
        }
        set(number, what, v);
      }
      return was;
    }

    int of(int number, int what) {
      if (what == 4 || what == 5) {
        return !is(number) ? BAD : what == 4 ? sills.get(number).layers.size() : sum(sills.get(number).layers);
      }
      return get(number, what);
    }

    int layer(int sill, int k, int what) {
      if (!is(sill) || k < 0 || !in(what, 0, 1)) {
        return BAD;
      }
      List<int[]> l = sills.get(sill).layers;
      return k < l.size() ? l.get(k)[what] : NOT;
    }

    int feed(int letter) {
      if (!in(letter, 0, 255)) {
        return BAD;
      }
      if (tape.length() == 120) {
        return FULL;
      }
      tape.append((char) letter);
      return tape.length();
    }

    int law() {
      String text = tape.toString();
      tape = new StringBuilder();
      int fault = faultOf(text);
      if (fault >= 0) {
        return -100 - fault;
      }
      law = text;
      given.clear();
      return 1;
    }

    int lays(int sill, int l) {
      if (!is(sill) || !in(l, 0, 65)) {
        return BAD;
      }
      return gives(sills.get(sill), sills.get(sill).layers.size(), looking(l)[0], looking(l)[1]);
    }

    /** Layers behind the first n of a BOOK; the last row of the answer: how many laid nothing. */
    List<int[]> behind(int shelf, int n, Sill s) {
      List<int[]> now = copy(s.layers);
      List<Long> e = ((Row) shelves[shelf]).elements;
      int bare = 0;
      for (int i = 0; i < Math.min(Math.min(n, 40), e.size()) && e.get(i) >= 0 && e.get(i) <= 65; i++) {
        int[] l = looking((int) (long) e.get(i));
        if (gives(s, now.size(), l[0], l[1]) == 0) {
          bare++;
        } else {
          settle(s, now, l[0], l[1]);
        }
      }
      now.add(new int[] {bare});
      return now;
    }

    int later(int shelf, int n, int sill, int what) {
      if (!in(shelf, 0, 5) || !in(n, 0, 40) || !is(sill) || !in(what, 0, 4)) {
        return BAD;
      }
      if (bytesRefused(shelf) != 0) {
        return bytesRefused(shelf);
      }
      List<int[]> now = behind(shelf, n, sills.get(sill));
      int bare = now.remove(now.size() - 1)[0];
      return new int[] {now.size(), sum(now), bits(now), most(now), bare}[what];
    }

    int laid(int shelf, int n, int sill, int kw) {
      if (!in(shelf, 0, 5) || !in(n, 0, 40) || !is(sill) || kw < 0 || kw % 10 > 2) {
        return BAD;
      }
      if (bytesRefused(shelf) != 0) {
        return bytesRefused(shelf);
      }
      List<int[]> now = behind(shelf, n, sills.get(sill));
      now.remove(now.size() - 1);
      if (kw % 10 < 2) {
        return kw / 10 < now.size() ? now.get(kw / 10)[kw % 10] : NOT;
      }
      List<Integer> unlike = new ArrayList<>();
      for (int i = now.size() - 1; i >= 0; i--) {
        if (!unlike.contains(now.get(i)[0])) {
          unlike.add(now.get(i)[0]);
        }
      }
      return kw / 10 < unlike.size() ? unlike.get(kw / 10) : NOT;
    }

    int breath(int sill, int v, int what) {
      if (!is(sill) || !in(v, 0, 99) || !in(what, 0, 1)) {
        return BAD;
      }
      List<int[]> now = copy(sills.get(sill).layers);
      take(now, v);
      return what == 1 ? now.size() : now.isEmpty() ? NOT : now.get(now.size() - 1)[0];
    }

    int clear(int sill, int one) {
      if (!is(sill) || !in(one, 0, 5)) {
        return BAD;
      }
      for (int v = 0;; v++) {
        List<int[]> now = copy(sills.get(sill).layers);
        take(now, v);
        if ((bits(now) >> one & 1) == 0) {
          return v;
        }
      }
    }

    int touch(int sill, int one, int n) {
      if (!is(sill) || !in(one, 0, 5) || !in(n, 0, 9)) {
        return BAD;
      }
      List<int[]> now = copy(sills.get(sill).layers);
      for (int i = 0; i <= 60; i++) {
        if (most(now) == one) {
          return i;
        }
        settle(sills.get(sill), now, one, n);
      }
      return NOT;
    }

    int tellsOf(int one) {
      return in(one, 0, 5) ? fewest(1 << one, 2) : BAD;
    }

    int fewest(int set, int what) {
      if (!in(set, 0, 63) || !in(what, 0, 2)) {
        return BAD;
      }
      int hide = 0;
      for (int i = 0; i < sills.size(); i++) {
        hide |= (bits(sills.get(i).layers) & set) != 0 ? 1 << i : 0;
      }
      if (what == 2) {
        return hide;
      }
      for (int size = 0; size <= 5; size++) {
        for (int some = 0; some < 1 << sills.size(); some++) {
          int read = 0;
          for (int i = 0; i < sills.size(); i++) {
            read |= (some >> i & 1) != 0 ? bits(sills.get(i).layers) : 0;
          }
          if (Integer.bitCount(some) == size && (read & set) == set) {
            return what == 0 ? size : some;
          }
        }
      }
      return NOT;
    }

    int corner() {
      int best = NOT;
      for (int i = sills.size() - 1; i >= 0; i--) {
        if (best < 0 || Integer.bitCount(bits(sills.get(i).layers)) >= Integer.bitCount(bits(sills.get(best).layers))) {
          best = i;
        }
      }
      return best;
    }

    long ways(int sill, int n) {
      if (!is(sill) || !in(n, 0, 9)) {
        return Long.MIN_VALUE;
      }
      return ways(sills.get(sill), new ArrayList<>(), n, new HashMap<>()).count;
    }

    int first(int sill, int n, int k) {
      if (!is(sill) || !in(n, 0, 9) || k < 0) {
        return BAD;
      }
      Sill s = sills.get(sill);
      Map<String, Ways> memo = new HashMap<>();
      List<int[]> now = new ArrayList<>();
      if (k >= n || ways(s, now, n, memo).count == 0) {
        return NOT;
      }
      int chosen = NOT;
      for (int step = 0; step <= k; step++) {
        for (chosen = 0;; chosen++) {
          List<int[]> next = copy(now);
          settle(s, next, chosen / 10, chosen % 10);
          if (ways(s, next, n - 1 - step, memo).count > 0) {
            now = next;
            break;
          }
        }
      }
      return chosen;
    }

    int least(int sill) {
      if (!is(sill)) {
        return BAD;
      }
      Map<String, Ways> memo = new HashMap<>();
      for (int n = 0; n <= 9; n++) {
        if (ways(sills.get(sill), new ArrayList<>(), n, memo).count > 0) {
          return n;
        }
      }
      return NOT;
    }

    int certain(int sill, int n) {
      if (!is(sill) || !in(n, 0, 9)) {
        return BAD;
      }
      long sets = ways(sills.get(sill), new ArrayList<>(), n, new HashMap<>()).sets;
      int all = sets == 0 ? 0 : 63;
      for (int set = 0; set < 64; set++) {
        all &= (sets >>> set & 1) != 0 ? set : 63;
      }
      return all;
    }

    static List<Integer> whoms(List<int[]> layers) {
      List<Integer> l = new ArrayList<>();
      for (int[] x : layers) {
        l.add(x[0]);
      }
      return l;
    }

    /** The longest order that both have, of like ones the first, by trying all of one's choices. */
    static String longest(List<Integer> a, List<Integer> b) {
      String best = "";
      for (int some = 0; some < 1 << a.size(); some++) {
        if (Integer.bitCount(some) < best.length()) {
          continue;
        }
        StringBuilder order = new StringBuilder();
        int at = 0;
        for (int i = 0; i < a.size() && at >= 0; i++) {
          if ((some >> i & 1) != 0) {
            while (at < b.size() && !b.get(at).equals(a.get(i))) {
              at++;
            }
            at = at < b.size() ? at + 1 : -1;
            order.append(a.get(i));
          }
        }
        String o = order.toString();
        if (at >= 0 && (o.length() > best.length() || o.length() == best.length() && o.compareTo(best) < 0)) {
          best = o;
        }
      }
      return best;
    }

    int alike(int ab, int k) {
      if (ab < 0 || !is(ab / 10) || !is(ab % 10) || k < -1) {
        return BAD;
      }
      String o = longest(whoms(sills.get(ab / 10).layers), whoms(sills.get(ab % 10).layers));
      return k == -1 ? o.length() : k < o.length() ? o.charAt(k) - '0' : NOT;
    }

    int same(int ab) {
      if (ab < 0 || !is(ab / 10) || !is(ab % 10)) {
        return BAD;
      }
      return whoms(sills.get(ab / 10).layers).equals(whoms(sills.get(ab % 10).layers)) ? 1 : 0;
    }

    long[] weights() {
      long[] t = new long[7];
      for (Sill s : sills) {
        for (int above = 0; above < s.layers.size(); above++) {
          int[] l = s.layers.get(s.layers.size() - 1 - above);
          t[l[0]] += l[1] * (13 - above);
          t[6] += l[1] * (13 - above);
        }
      }
      return t;
    }

    long likely(int one, int part) {
      if (!in(one, 0, 5) || !in(part, 0, 1)) {
        return Long.MIN_VALUE;
      }
      long[] t = weights();
      if (t[6] == 0) {
        return part;
      }
      long over = t[one], under = t[6];
      for (long d = under; d > 1; d--) {
        if (over % d == 0 && under % d == 0) {
          over /= d;
          under /= d;
          break;
        }
      }
      return part == 0 ? over : under;
    }

    int expected() {
      long[] t = weights();
      long most = Math.max(Math.max(Math.max(t[0], t[1]), Math.max(t[2], t[3])), Math.max(t[4], t[5]));
      for (int one = 0; one < 6 && most > 0; one++) {
        if (t[one] == most) {
          return one;
        }
      }
      return NOT;
    }

    int judge(int shelf, int sill) {
      if (!in(shelf, 0, 5) || !is(sill)) {
        return BAD;
      }
      if (bytesRefused(shelf) != 0) {
        return bytesRefused(shelf);
      }
      List<Long> told = ((Row) shelves[shelf]).elements;
      List<Integer> is = whoms(sills.get(sill).layers);
      for (int i = 0; i < told.size() || i < is.size(); i++) {
        if (i >= told.size() || i >= is.size() || told.get(i) != (long) is.get(i)) {
          return i;
        }
      }
      return NOT;
    }

    int drawn(int seed, int nm, int sill, int whom) {
      if (nm < 0 || !in(nm / 100, 1, 30) || !in(nm % 100, 1, 40) || !is(sill) || !in(whom, -1, 5)) {
        return BAD;
      }
      int z = seed, all = 0;
      for (int year = 0; year < nm / 100; year++) {
        List<int[]> now = copy(sills.get(sill).layers);
        for (int i = 0; i < nm % 100; i++) {
          z = (int) ((long) z * 1103515245L + 12345L);
          long unsigned = z & 0xffffffffL;
          settle(sills.get(sill), now, (int) ((unsigned / 256) % 6), (int) ((unsigned / 65536) % 10));
        }
        all += whom < 0 ? now.size() : !now.isEmpty() && now.get(now.size() - 1)[0] == whom ? 1 : 0;
      }
      return all;
    }

    int look(int l) {
      if (!in(l, 0, 65)) {
        return BAD;
      }
      int grains = 0;
      for (Sill s : sills) {
        grains += settle(s, s.layers, looking(l)[0], looking(l)[1]);
      }
      led[0]++;
      led[1] += grains;
      return grains;
    }

    int blow(int sill, int v) {
      if (!is(sill) || !in(v, 0, 99)) {
        return BAD;
      }
      int g = take(sills.get(sill).layers, v);
      led[2] += g;
      return g;
    }

    int sweep(int sill) {
      if (!is(sill)) {
        return BAD;
      }
      int g = sum(sills.get(sill).layers);
      sills.get(sill).layers.clear();
      led[3] += g;
      led[4]++;
      return g;
    }

    int led(int what) {
      return in(what, 0, 4) ? led[what] : BAD;
    }

    int image() {
      image = new ArrayList<>();
      for (Sill s : sills) {
        image.add(copy(s.layers));
      }
      imageLed = led.clone();
      return led[0];
    }

    int back() {
      if (image == null) {
        return STATE;
      }
      for (int i = 0; i < sills.size(); i++) {
        sills.get(i).layers = i < image.size() ? copy(image.get(i)) : new ArrayList<>();
      }
      led = imageLed.clone();
      return led[0];
    }

    int undo() {
      if (done.isEmpty()) {
        return STATE;
      }
      int[] c = done.remove(done.size() - 1);
      undone.add(c);
      set(c[0], c[1], c[2]);
      return done.size();
    }

    int redo() {
      if (undone.isEmpty()) {
        return STATE;
      }
      int[] c = undone.remove(undone.size() - 1);
      done.add(c);
      set(c[0], c[1], c[3]);
      return undone.size();
    }

    int body(int kind) {
      if (!in(kind, 0, 7)) {
        return BAD;
      }
      if (bodies.size() == 50) {
        return FULL;
      }
      bodies.add(kind);
      return bodies.size() - 1;
    }

    // the host's own dispatch does what part 5 tells: classes under classes, interfaces with bodies
    final class Ran {
      void mark(int number) {
        trace.add(number);
      }
    }

    interface Lies {
      int n();
      Ran ran();
      default int lies(int x) {
        ran().mark(1);
        return x + n();
      }
    }

    interface Tells {
      Ran ran();
      int reads(int x);
      int falls(int x);
      default int tells(int x) {
        ran().mark(2);
        return reads(x) - falls(1);
      }
    }

    static class Grey implements Lies, Tells {
      final int n;
      final Ran ran;
      Grey(int n, Ran ran) {
        this.n = n;
        this.ran = ran;
      }
      public int n() {
        return n;
      }
      public Ran ran() {
        return ran;
      }
      public int reads(int x) {
        ran.mark(10);
        return lies(x) * 2;
      }
      public int falls(int x) {
        ran.mark(11);
        return x ^ n;
      }
    }

    static class Layer extends Grey {
      Layer(int n, Ran ran) {
        super(n, ran);
      }
      public int lies(int x) {
        ran.mark(20);
        return super.lies(x) + 3;
      }
    }

    static class Thursday extends Grey {
      Thursday(int n, Ran ran) {
        super(n, ran);
      }
      public int reads(int x) {
        ran.mark(30);
        return -super.reads(x);
      }
    }

    static class Corner extends Thursday {
      Corner(int n, Ran ran) {
        super(n, ran);
      }
      public int falls(int x) {
        ran.mark(40);
        return super.falls(x) * 3;
      }
      public int reads(int x) {
        ran.mark(41);
        return super.reads(x + 1);
      }
    }

    static class Breath extends Layer {
      Breath(int n, Ran ran) {
        super(n, ran);
      }
      public int tells(int x) {
        ran.mark(50);
        return super.tells(x) ^ 5;
      }
    }

    static class Char extends Corner {
      Char(int n, Ran ran) {
        super(n, ran);
      }
      public int falls(int x) {
        ran.mark(60);
        return super.falls(x) - lies(2);
      }
      public int tells(int x) {
        ran.mark(61);
        return super.tells(x) + 1;
      }
    }

    static class Pan extends Grey {
      Pan(int n, Ran ran) {
        super(n, ran);
      }
      public int lies(int x) {
        ran.mark(70);
        return super.lies(x) * 2;
      }
    }

    static class PanSill extends Pan {
      PanSill(int n, Ran ran) {
        super(n, ran);
      }
      public int reads(int x) {
        ran.mark(80);
        return super.reads(x) + falls(2);
      }
      public int lies(int x) {
        ran.mark(81);
        return super.lies(x) - 1;
      }
    }

    Grey made(int n) {
      Ran ran = new Ran();
      switch (bodies.get(n)) {
        case 0: return new Grey(n, ran);
        case 1: return new Layer(n, ran);
        case 2: return new Thursday(n, ran);
        case 3: return new Corner(n, ran);
        case 4: return new Breath(n, ran);
        case 5: return new Char(n, ran);
        case 6: return new Pan(n, ran);
        default: return new PanSill(n, ran);
      }
    }

    int act(int body, int act, int x) {
      trace.clear();
      if (!in(body, 0, bodies.size() - 1) || !in(act, 0, 3)) {
        return 0;
      }
      Grey g = made(body);
      return act == 0 ? g.lies(x) : act == 1 ? g.reads(x) : act == 2 ? g.falls(x) : g.tells(x);
    }

    int trace(int i) {
      return in(i, 0, Math.min(24, trace.size()) - 1) ? trace.get(i) : BAD;
    }

    int keep(int shelf, int body) {
      if (!in(shelf, 0, 5) || !in(body, -1, bodies.size() - 1)) {
        return BAD;
      }
      shelves[shelf] = body < 0 ? null : (Object) body;
      return 1;
    }

    int row(int shelf, int sort, int n) {
      if (!in(shelf, 0, 5) || !in(sort, 0, 4) || n > 60) {
        return BAD;
      }
      if (n < 0) {
        return -14;
      }
      Row r = new Row();
      r.sort = sort;
      for (int i = 0; i < n; i++) {
        r.elements.add(0L);
      }
      shelves[shelf] = r;
      return 1;
    }

    int place(int shelf, int i) {
      if (!in(shelf, 0, 5)) {
        return BAD;
      }
      if (shelves[shelf] == null) {
        return -11;
      }
      if (!(shelves[shelf] instanceof Row)) {
        return -12;
      }
      return in(i, 0, ((Row) shelves[shelf]).elements.size() - 1) ? 0 : -13;
    }

    int put(int shelf, int i, long v) {
      if (place(shelf, i) != 0) {
        return place(shelf, i);
      }
      Row r = (Row) shelves[shelf];
      int[] size = {8, 16, 32, 64};
      long kept = r.sort == 4 ? (v == 0 ? 0 : 1) : v << (64 - size[r.sort]) >> (64 - size[r.sort]);
      r.elements.set(i, kept);
      return 1;
    }

    long element(int shelf, int i) {
      return place(shelf, i) != 0 ? Long.MIN_VALUE : ((Row) shelves[shelf]).elements.get(i);
    }

    int shift(int shelf, int i, int other, int j, int n) {
      if (!in(shelf, 0, 5) || !in(other, 0, 5)) {
        return BAD;
      }
      if (shelves[shelf] == null || shelves[other] == null) {
        return -11;
      }
      if (!(shelves[shelf] instanceof Row) || !(shelves[other] instanceof Row)
          || ((Row) shelves[shelf]).sort != ((Row) shelves[other]).sort) {
        return -12;
      }
      List<Long> from = ((Row) shelves[shelf]).elements, to = ((Row) shelves[other]).elements;
      if (n < 0 || i < 0 || j < 0 || (long) i + n > from.size() || (long) j + n > to.size()) {
        return -13;
      }
      List<Long> were = new ArrayList<>(from);
      for (int e = 0; e < n; e++) {
        to.set(j + e, were.get(i + e));
      }
      return n;
    }

    int taken(int shelf, int k) {
      if (!in(shelf, 0, 5) || !in(k, 0, 7)) {
        return BAD;
      }
      if (shelves[shelf] == null) {
        return -11;
      }
      if (shelves[shelf] instanceof Row) {
        return -12;
      }
      Class<?>[] kinds = {Grey.class, Layer.class, Thursday.class, Corner.class, Breath.class, Char.class, Pan.class,
        PanSill.class};
      int n = (Integer) shelves[shelf];
      return kinds[k].isInstance(made(n)) ? bodies.get(n) : -12;
    }

    int count(int what) {
      return in(what, 0, 4)
          ? new int[] {sills.size(), tape.length(), done.size(), bodies.size(), trace.size()}[what] : BAD;
    }
  }

  // ---- the runs

  static Random random;
  static int wrong = 0;
  static long asked = 0;
  static final Map<String, Integer> answered = new HashMap<>();

  static int upTo(int most) {
    return random.nextInt(most + 1);
  }

  /** Mostly within 0 .. most, at times at or beyond its edges. */
  static int arg(int most) {
    switch (random.nextInt(24)) {
      case 0:
        return -1;
      case 1:
        return most + 1;
      case 2:
        return random.nextInt(5) == 0 ? random.nextInt() : most;
      case 3:
        return random.nextInt(5) == 0 ? new int[] {Integer.MAX_VALUE, Integer.MIN_VALUE}[upTo(1)] : 0;
      default:
        return upTo(most);
    }
  }

  /** Mostly one of so many that are there. */
  static int oneOf(int there) {
    return there > 0 && random.nextInt(12) > 0 ? random.nextInt(there) : arg(5);
  }

  static final String[] LAWS = {
    "n", "n-g/3+s", "k<12?n;n/2", "w=s?0;n", "n*2-h+k-g/3+(w=s)", "1", "0", "w<3?n%4;n/3;9", "!k|w=2&n>3?n;1",
    "k%2?w+1;n", "n>w?n-w;0", "(n+h)*(k+1)%7", "-n+9", "n<3?0;9", "9", "w=5|n=0?0;n%3+1", "k=12?9;n", "n/(k-3)", "n&1", "n%2"
  };

  static String text() {
    if (random.nextInt(4) > 0) {
      return LAWS[random.nextInt(LAWS.length)];
    }
    StringBuilder t = new StringBuilder();
    if (random.nextInt(3) > 0) {
      grow(t, 0, 0);
      while (random.nextInt(3) == 0) {
        t.append(random.nextInt(2) == 0 ? ';' : '?');
        grow(t, 0, 0);
      }
      if (random.nextInt(3) == 0) {
        int at = random.nextInt(t.length());
        String bytes = "n1?;()!-+<|&9 \u00e9";
        t.setCharAt(at, bytes.charAt(random.nextInt(bytes.length())));
      }
    } else {
      String bytes = "nhgskw0123456789()!-+*/%<=>|&?; x";
      for (int i = random.nextInt(20); i > 0; i--) {
        t.append(bytes.charAt(random.nextInt(bytes.length())));
      }
    }
    return t.length() > 120 ? t.substring(0, 120) : t.toString();
  }

  static void grow(StringBuilder t, int part, int open) {
    String[] signs = {"|", "&", "<=>", "+-", "*/%"};
    if (part < 5) {
      grow(t, part + 1, open);
      for (int i = 0; random.nextInt(4) == 0 && i < (part == 2 ? 1 + random.nextInt(20) / 19 : 5); i++) {
        t.append(signs[part].charAt(random.nextInt(signs[part].length())));
        grow(t, part + 1, open);
      }
      return;
    }
    int which = random.nextInt(10);
    if (which < 5 || open > 6) {
      t.append("nhgskw".charAt(random.nextInt(6)));
    } else if (which < 7) {
      t.append(random.nextInt(new int[] {3, 10, 100, 10000, 11000}[random.nextInt(5)]));
    } else if (which < 9) {
      t.append(which == 7 ? '!' : '-');
      grow(t, 5, open + 1);
    } else {
      t.append('(');
      grow(t, 0, open + 1);
      t.append(')');
    }
  }

  static void same(String call, long got, long want) {
    asked++;
    String name = call.substring(0, call.indexOf('('));
    String kind = name + (want == Long.MIN_VALUE ? " least" : want < 0 && want > -15 ? " " + want : " answer");
    answered.merge(kind, 1, Integer::sum);
    if (got != want) {
      wrong++;
      if (wrong < 30) {
        System.out.println(call + " answered " + got + ", due is " + want);
      }
    }
  }

  static String told(String name, long... args) {
    return name + Arrays.toString(args).replace('[', '(').replace(']', ')');
  }

  static void sillCalls(DustInOrder x, Model m, int which) {
    int a = arg(9), b = arg(9), c = arg(9), s = oneOf(m.sills.size()), l = arg(65), h = arg(5), n = arg(9);
    switch (which) {
      case 0:
        a = random.nextInt(3) == 0 ? a : 0;
        b = random.nextInt(2) == 0 ? b : arg(3);
        same(told("sill", a, b), x.sill(a, b), m.sill(a, b));
        break;
      case 1:
        a = arg(20);
        b = arg(5);
        same(told("sills", h, a, b), x.sills(h, a, b), m.sills(h, a, b));
        break;
      case 2:
        a = arg(3);
        b = a == 3 ? arg(0) : a == 2 ? arg(5) : s;
        c = a == 3 ? arg(3) : c;
        same(told("mend", b, a, c), x.mend(b, a, c), m.mend(b, a, c));
        break;
      case 3:
        a = arg(5);
        b = a == 3 ? arg(0) : arg(5);
        same(told("of", b, a), x.of(b, a), m.of(b, a));
        break;
      case 4:
        a = arg(11);
        b = arg(1);
        same(told("layer", s, a, b), x.layer(s, a, b), m.layer(s, a, b));
        break;
      case 5:
        a = arg(255);
        same(told("feed", a), x.feed(a), m.feed(a));
        break;
      case 6:
        same(told("law"), x.law(), m.law());
        break;
      case 7:
        same(told("lays", s, l), x.lays(s, l), m.lays(s, l));
        break;
      case 8:
        tellLaw(x, m);
        break;
      default:
        tellBook(x, m);
        break;
    }
  }

  static void tellLaw(DustInOrder x, Model m) {
    String t = text();
    for (int i = 0; i < t.length(); i++) {
      same(told("feed", t.charAt(i)), x.feed(t.charAt(i)), m.feed(t.charAt(i)));
    }
    same("law(" + t + ")", x.law(), m.law());
  }

  static void tellBook(DustInOrder x, Model m) {
    int shelf = upTo(5), n = upTo(12), judged = upTo(3) == 0 ? upTo(4) : -1;
    same(told("row", shelf, 0, n), x.row(shelf, 0, n), m.row(shelf, 0, n));
    for (int i = 0; i < n; i++) {
      int v = judged >= 0 && m.layer(judged, i, 0) >= 0 ? m.layer(judged, i, 0) : arg(65);
      same(told("put", shelf, i, v), x.put(shelf, i, v), m.put(shelf, i, v));
    }
  }

  static void thoughtCalls(DustInOrder x, Model m, int which) {
    int a = arg(9), n = arg(40), s = oneOf(m.sills.size()), h = arg(5), w = arg(5), what = arg(4), half = arg(1);
    switch (which) {
      case 0:
        same(told("later", h, n, s, what), x.later(h, n, s, what), m.later(h, n, s, what));
        break;
      case 1:
        a = 10 * arg(9) + arg(2);
        same(told("laid", h, n, s, a), x.laid(h, n, s, a), m.laid(h, n, s, a));
        break;
      case 2:
        n = arg(99);
        same(told("breath", s, n, half), x.breath(s, n, half), m.breath(s, n, half));
        break;
      case 3:
        same(told("clear", s, w), x.clear(s, w), m.clear(s, w));
        break;
      case 4:
        same(told("touch", s, w, a), x.touch(s, w, a), m.touch(s, w, a));
        break;
      case 5:
        same(told("tellsOf", w), x.tellsOf(w), m.tellsOf(w));
        break;
      case 6:
        n = arg(63);
        w = arg(2);
        same(told("fewest", n, w), x.fewest(n, w), m.fewest(n, w));
        break;
      default:
        same(told("corner"), x.corner(), m.corner());
        break;
    }
  }

  static void readCalls(DustInOrder x, Model m, int which) {
    int n = arg(9), s = oneOf(m.sills.size()), k = arg(9), w = arg(5), h = arg(5), half = arg(1);
    int ab = 10 * s + oneOf(m.sills.size());
    switch (which) {
      case 0:
        same(told("ways", s, n), x.ways(s, n), m.ways(s, n));
        break;
      case 1:
        same(told("first", s, n, k), x.first(s, n, k), m.first(s, n, k));
        break;
      case 2:
        same(told("least", s), x.least(s), m.least(s));
        break;
      case 3:
        same(told("certain", s, n), x.certain(s, n), m.certain(s, n));
        break;
      case 4:
        k -= upTo(1);
        same(told("alike", ab, k), x.alike(ab, k), m.alike(ab, k));
        break;
      case 5:
        same(told("same", ab), x.same(ab), m.same(ab));
        break;
      case 6:
        same(told("likely", w, half), x.likely(w, half), m.likely(w, half));
        break;
      case 7:
        same(told("expected"), x.expected(), m.expected());
        break;
      case 8:
        same(told("judge", h, s), x.judge(h, s), m.judge(h, s));
        break;
      default:
        n = 100 * arg(30) + arg(40);
        w = arg(6) - 1;
        k = random.nextInt();
        same(told("drawn", k, n, s, w), x.drawn(k, n, s, w), m.drawn(k, n, s, w));
        break;
    }
  }

  static void deedCalls(DustInOrder x, Model m, int which) {
    int l = arg(65), s = oneOf(m.sills.size()), n = arg(99), what = arg(4);
    switch (which) {
      case 0:
        same(told("look", l), x.look(l), m.look(l));
        break;
      case 1:
        n = upTo(2) == 0 ? n : upTo(9);
        same(told("blow", s, n), x.blow(s, n), m.blow(s, n));
        break;
      case 2:
        same(told("sweep", s), x.sweep(s), m.sweep(s));
        break;
      case 3:
        same(told("led", what), x.led(what), m.led(what));
        break;
      case 4:
        same(told("image"), x.image(), m.image());
        break;
      case 5:
        same(told("back"), x.back(), m.back());
        break;
      case 6:
        same(told("undo"), x.undo(), m.undo());
        break;
      default:
        same(told("redo"), x.redo(), m.redo());
        break;
    }
  }

  static void shelfCalls(DustInOrder x, Model m, int which) {
    int h = arg(5), o = arg(5), b = oneOf(m.bodies.size()), k = arg(7), act = arg(3), i = arg(14), j = arg(14), n = arg(7);
    int v = random.nextInt(3) == 0 ? random.nextInt() : random.nextInt(70) - 2;
    switch (which) {
      case 0:
        same(told("body", k), x.body(k), m.body(k));
        break;
      case 1:
        same(told("act", b, act, v), x.act(b, act, v), m.act(b, act, v));
        break;
      case 2:
        i = arg(9);
        same(told("trace", i), x.trace(i), m.trace(i));
        break;
      case 3:
        b = upTo(5) == 0 ? -1 : b;
        same(told("keep", h, b), x.keep(h, b), m.keep(h, b));
        break;
      case 4:
        n = upTo(3) == 0 ? arg(60) : upTo(14);
        k = upTo(2) == 0 ? 0 : arg(4);
        same(told("row", h, k, n), x.row(h, k, n), m.row(h, k, n));
        break;
      case 5:
        long value = random.nextInt(4) == 0 ? random.nextLong() : v;
        same(told("put", h, i, value), x.put(h, i, value), m.put(h, i, value));
        break;
      case 6:
        same(told("element", h, i), x.element(h, i), m.element(h, i));
        break;
      case 7:
        o = upTo(2) == 0 ? h : o;
        same(told("shift", h, i, o, j, n), x.shift(h, i, o, j, n), m.shift(h, i, o, j, n));
        break;
      case 8:
        same(told("taken", h, k), x.taken(h, k), m.taken(h, k));
        break;
      default:
        same(told("count", act), x.count(act), m.count(act));
        break;
    }
  }

  /** What can be read of the state: as many answers as are left of the 512 calls, others in each run. */
  static void whole(DustInOrder x, Model m, int left) {
    List<Runnable> questions = new ArrayList<>();
    for (int s = -1; s <= 5; s++) {
      int sill = s;
      for (int w = -1; w <= 6; w++) {
        int what = w;
        questions.add(() -> same(told("of", sill, what), x.of(sill, what), m.of(sill, what)));
      }
      for (int i = 0; i <= 25; i++) {
        int k = i / 2, what = i % 2;
        questions.add(() -> same(told("layer", sill, k, what), x.layer(sill, k, what), m.layer(sill, k, what)));
      }
    }
    for (int i = 0; i < 11; i++) {
      int what = i;
      questions.add(() -> same(told("led", what), x.led(what), m.led(what)));
      questions.add(() -> same(told("count", what), x.count(what), m.count(what)));
      questions.add(() -> same(told("trace", what), x.trace(what), m.trace(what)));
    }
    for (int h = 0; h < 6; h++) {
      int shelf = h;
      questions.add(() -> same(told("taken", shelf, 0), x.taken(shelf, 0), m.taken(shelf, 0)));
      for (int i = 0; i < 15; i++) {
        int place = i;
        questions.add(() -> same(told("element", shelf, place), x.element(shelf, place), m.element(shelf, place)));
      }
    }
    Collections.shuffle(questions, random);
    for (int i = 0; i < left; i++) {
      questions.get(i).run();
    }
  }

  /** 512 calls on one house, as that is what it is used for. */
  static void run(int seed) {
    random = new Random(seed);
    DustInOrder x = new DustInOrder();
    Model m = new Model();
    int deeds = random.nextInt(20), sillShare = random.nextInt(12);
    int before = wrong;
    long first = asked;
    for (int i = random.nextInt(4); i > 0; i--) {
      int high = upTo(9), draught = upTo(9);
      same(told("sill", high, draught), x.sill(high, draught), m.sill(high, draught));
    }
    // one turn asks 135 at most: a text of 120 bytes, days on a swept SILL ahead of it
    while (asked - first <= CALLS - 135) {
      turn(x, m, deeds, sillShare);
    }
    whole(x, m, (int) (CALLS - (asked - first)));
    if (wrong != before || asked - first != CALLS) {
      wrong += asked - first != CALLS ? 1 : 0;
      System.out.println("that was run " + seed + " of " + (asked - first) + " calls");
    }
  }

  static void turn(DustInOrder x, Model m, int deeds, int sillShare) {
    int which = random.nextInt(40 + deeds);
    if (random.nextInt(60) == 0 && m.sills.size() > 0) {
      // a few days on a swept SILL, so that some way may lead there
      int swept = random.nextInt(m.sills.size());
      same(told("sweep", swept), x.sweep(swept), m.sweep(swept));
      for (int i = upTo(9); i > 0; i--) {
        deedCalls(x, m, 0);
      }
      for (int i = 0; i < 4; i++) {
        readCalls(x, m, i);
      }
    }
    if (which < 10) {
      sillCalls(x, m, which == 0 && random.nextInt(12) > sillShare ? 7 : which);
    } else if (which < 18) {
      thoughtCalls(x, m, which - 10);
    } else if (which < 28) {
      readCalls(x, m, which - 18);
    } else if (which < 30) {
      deedCalls(x, m, random.nextInt(8));
    } else if (which < 40) {
      shelfCalls(x, m, which - 30);
    } else {
      deedCalls(x, m, 0);
    }
  }

  /** Texts alone, many more of them than the runs have. */
  static void texts() {
    random = new Random(45);
    for (int i = 0; i < 6000; i++) {
      DustInOrder x = new DustInOrder();
      Model m = new Model();
      int high = upTo(9), draught = upTo(9), season = upTo(3);
      x.sill(high, draught);
      m.sill(high, draught);
      x.mend(0, 3, season);
      m.mend(0, 3, season);
      x.look(19);
      m.look(19);
      tellLaw(x, m);
      for (int l = 0; l < 60; l += 7) {
        same(told("lays", 0, l), x.lays(0, l), m.lays(0, l));
      }
    }
  }

  public static void main(String[] args) {
    int runs = args.length > 0 ? Integer.parseInt(args[0]) : 800;
    for (int seed = 0; seed < runs; seed++) {
      run(seed);
    }
    texts();
    System.out.println(asked + " answers asked, " + wrong + " not as the model's");
    if (args.length > 1) {
      List<String> kinds = new ArrayList<>(answered.keySet());
      kinds.sort(null);
      for (String kind : kinds) {
        System.out.println(kind + ": " + answered.get(kind));
      }
    }
    if (wrong != 0) {
      System.exit(1);
    }
  }
}
