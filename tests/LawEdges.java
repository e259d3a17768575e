/** The boundary cases of THE LAW and THE TAPE in part 1 of 'Terms', and of promises 7 and 8. */
public final class LawEdges {
  private static final int BAD = Due.BAD, FULL = Due.FULL;

  private static final String DIGITS = "0123456789", NAMES = "nhgskw", OPENING = "(!-";
  private static final String SIMPLE = DIGITS + NAMES, OPERAND = SIMPLE + OPENING;
  private static final String SIGNS = "|&+-*/%", COMPARING = "<=>";
  // what may stand behind an O in a first E, with nothing open
  private static final String BEHIND = SIGNS + COMPARING + "?;";

  /** Which bytes (of all 256) a TEXT that begins so may go on with. */
  private static void goesOn(String prefix, String with) {
    for (int b = 0; b <= 255; b++) {
      DustInOrder x = new DustInOrder();
      Due.feed(x, prefix);
      x.feed(b);
      int got = x.law();
      int place = prefix.length();
      if (with.indexOf((char) b) < 0) {
        Due.due("8: " + prefix + " and " + b, got, -100 - place);
      } else if (got != 1) {
        Due.due("8: " + prefix + " and " + b + " ends too early", got, -100 - place - 1);
      }
    }
  }

  private static void text(String text) {
    Due.due("8: " + text, Due.law(new DustInOrder(), text), 1);
  }

  private static void fault(String text, int place) {
    DustInOrder x = Due.house(0, 9);
    Due.due("8: " + text, Due.law(x, text), -100 - place);
    Due.due("8: " + text + ": THE TAPE is empty then", x.count(1), 0);
    Due.due("8: " + text + ": there is no text as before", x.lays(0, 9), 6);
  }

  private static void earlyEnd(String text) {
    fault(text, text.length());
  }

  // HIGH 9, DRAUGHT 8, SEASON 3, asked for 5 by 7 on one LAYER
  private static int worth(String text) {
    DustInOrder x = Due.house(9, 8);
    Due.law(x, "1");
    x.look(1);
    x.mend(0, 3, 3);
    Due.due("8: " + text + " is a TEXT", Due.law(x, text), 1);
    return x.lays(0, 57);
  }

  private static void gives(String text, int want) {
    Due.due("8: " + text + " gives", worth(text), want);
  }

  private static void holds(String comparison) {
    gives(comparison, 1);
  }

  // "A byte (0 .. 255) comes to THE TAPE: how many it has. BAD, FULL (120)."
  private static void feed() {
    for (int b = 0; b <= 255; b++) {
      Due.due("7: byte " + b, new DustInOrder().feed(b), 1);
    }
    DustInOrder x = new DustInOrder();
    for (int b : Due.outside(0, 255)) {
      Due.due("7: " + b, x.feed(b), BAD);
      Due.due("7: no byte came", x.count(1), 0);
    }
    for (int i = 1; i <= 120; i++) {
      Due.due("7: how many", x.feed('!'), i);
      Due.due("45: how many", x.count(1), i);
    }
    for (int b : new int[] {0, '1', 255}) {
      Due.due("7: the 121st", x.feed(b), FULL);
    }
    Due.due("7: BAD is named ahead of FULL", x.feed(-1), BAD);
    Due.due("7: BAD is named ahead of FULL", x.feed(256), BAD);
    Due.due("7: 120 still", x.count(1), 120);
    x.law();
    Due.due("8: empty then", x.count(1), 0);
    Due.due("7: the first one again", x.feed(0), 1);
  }

  // "THE LAW is a TEXT by THE TAPE (at most 120 bytes)"
  private static void mostBytes() {
    String zeros = "0" + Due.times("+0", 58);
    gives(zeros + "+7", 7);
    gives(zeros + "+07", 7);
    gives("n" + Due.times(";0", 59), 7);
    gives(Due.times("0?1;", 29) + "0+8", 8);
    gives(Due.times("0?1;", 29) + "0?9", 0);
    gives(Due.times("0?1;", 29) + "!!!0", 1);
    gives("1?5" + Due.times(";9", 58), 5);
    gives("1?5;" + Due.times("9;", 57) + "10", 5);
    // the tightest signs behind six that are open, as deep as 120 bytes let them lie
    gives(Due.times("0|1&1=0+1*(", 6) + "1" + Due.times(")", 6), 1);
    gives(Due.times("0|1&1=0+1*(", 6) + "0" + Due.times(")", 6), 0);
    fault(zeros + "+7 ", 119);
    fault(zeros + "+7)", 119);
    fault(zeros + " 07", 117);
    earlyEnd(zeros + "+0+");
    earlyEnd(zeros + "+0;");
    earlyEnd(zeros + "+0?");
    DustInOrder x = Due.house(0, 0);
    Due.feed(x, zeros + "+04");
    Due.due("7: the 121st is no part of it", x.feed('0'), FULL);
    Due.due("8: of 120 bytes", x.law(), 1);
    Due.due("9: by its last byte", x.lays(0, 0), 4);
  }

  // "LINES, one or more, parted by ;"
  private static void lines() {
    earlyEnd("");
    text("n");
    text("n;n");
    text("n?n;n?n;n");
    fault(";", 0);
    fault(";n", 0);
    earlyEnd("n;");
    earlyEnd("n?n;");
    fault("n;;n", 2);
    goesOn("", OPERAND);
    goesOn("n;", OPERAND);
    goesOn("n?n;", OPERAND);
    goesOn("n;n", BEHIND);
  }

  // "LINES ...: E, or E ? E"
  private static void linesOfTwo() {
    goesOn("n?", OPERAND);
    goesOn("n?n", SIGNS + COMPARING + ";");
    goesOn("n?n;n", BEHIND);
    earlyEnd("n?");
    fault("?n", 0);
    fault("n?n?n", 3);
    fault("n??n", 2);
    fault("(n?n)", 2);
    fault("(n;n)", 2);
  }

  // "E = A { | A }. A = B { & B }. B = S, or S < S, S = S, S > S. S = P { + P, - P }. P = O { * O, / O, % O }."
  private static void signs() {
    for (char sign : (SIGNS + COMPARING).toCharArray()) {
      goesOn("n" + sign, OPERAND);
      goesOn("n" + sign + "n", COMPARING.indexOf(sign) < 0 ? BEHIND : SIGNS + "?;");
      goesOn("(n" + sign + "n", SIGNS + ")" + (COMPARING.indexOf(sign) < 0 ? COMPARING : ""));
      earlyEnd("n" + sign);
      if (sign != '-') {
        fault(sign + "n", 0);
      }
    }
    // one S < S at most, till | & ( or a LINE begins another
    for (char sign : COMPARING.toCharArray()) {
      String compared = "n" + sign + "n";
      for (char other : COMPARING.toCharArray()) {
        fault(compared + other + "n", 3);
        fault(compared + "+n*n" + other + "n", 7);
        text(compared + "|n" + other + "n");
        text(compared + "&n" + other + "n");
        text(compared + "?n" + other + "n");
        text(compared + ";n" + other + "n");
        text("(" + compared + ")" + other + "n");
        text("n" + other + "(" + compared + ")");
        text(compared + "+(n" + other + "n)");
        fault("n" + sign + "(" + compared + ")" + other + "n", 7);
      }
    }
    goesOn("n<n|n", BEHIND);
    goesOn("n<n&n", BEHIND);
    goesOn("(n<n)", BEHIND);
    goesOn("n=(n>n)", SIGNS + "?;");
  }

  // "a number (1 to 4 digits)"
  private static void numbers() {
    for (String number : new String[] {"0", "9", "10", "99", "000", "999"}) {
      goesOn(number, BEHIND + DIGITS);
    }
    for (String number : new String[] {"0000", "0001", "1000", "9999"}) {
      goesOn(number, BEHIND);
      goesOn("n-" + number, BEHIND);
      goesOn("(" + number, SIGNS + COMPARING + ")");
    }
    fault("00000", 4);
    fault("12345", 4);
    gives("0009", 9);
    holds("9999=1000*10-1");
    holds("0010=10");
    holds("1234=((1*10+2)*10+3)*10+4");
  }

  // "a NAME": one letter, and nothing joined to it
  private static void names() {
    for (char name : NAMES.toCharArray()) {
      goesOn("" + name, BEHIND);
      goesOn("1+" + name, BEHIND);
      goesOn("!" + name, BEHIND);
      fault(name + "1", 1);
      fault("1" + name, 1);
    }
    gives("n", 7);
    gives("h", 9);
    gives("g", 8);
    gives("s", 3);
    gives("k", 1);
    gives("w", 5);
  }

  // the NAMES at their least and greatest: n 0 .. 9, h 0 .. 9, g 0 .. 9, s 0 .. 3, k 0 .. 12, w 0 .. 5
  private static void namesAtTheirEnds() {
    DustInOrder x = Due.house(0, 9, 9, 0);
    Due.law(x, "n");
    Due.due("9: n 0", x.lays(0, 10), 0);
    Due.due("9: n 9", x.lays(0, 19), 9);
    Due.law(x, "w");
    Due.due("9: w 0", x.lays(0, 9), 0);
    Due.due("9: w 5", x.lays(0, 50), 5);
    Due.law(x, "h");
    Due.due("9: h 0", x.lays(0, 9), 0);
    Due.due("9: h 9", x.lays(1, 0), 9);
    Due.law(x, "g");
    Due.due("9: g 9", x.lays(0, 0), 9);
    Due.due("9: g 0", x.lays(1, 9), 0);
    Due.law(x, "s");
    Due.due("9: s 0", x.lays(0, 9), 0);
    x.mend(0, 3, 3);
    Due.due("9: s 3", x.lays(0, 0), 3);
    DustInOrder y = Due.house(0, 0);
    for (int k = 0; k <= 14; k++) {
      Due.law(y, "k=" + Math.min(k, 12));
      Due.due("9: k " + k, y.lays(0, 0), 1);
      Due.due("28: asked with as many as lie ahead of it", y.look(k % 2 * 10), 1);
    }
  }

  // "No blanks."
  private static void blanks() {
    String text = "n<(1-!k)?20;-3";
    for (int i = 0; i <= text.length(); i++) {
      for (String blank : new String[] {" ", "\t", "\n", "\r", "\u00a0", "\0"}) {
        fault(text.substring(0, i) + blank + text.substring(i), i);
      }
    }
    text(text);
  }

  // "At most 6 of ( ! - ahead of an O are open at once."
  private static void sixOpen() {
    for (int code = 0; code < 729; code++) {
      StringBuilder open = new StringBuilder();
      for (int c = code, i = 0; i < 6; c /= 3, i++) {
        open.append(OPENING.charAt(c % 3));
      }
      int brackets = (int) open.chars().filter(c -> c == '(').count();
      for (char seventh : OPENING.toCharArray()) {
        fault(open.toString() + seventh, 6);
        text(open.substring(1) + seventh + "1" + Due.times(")", brackets - (open.charAt(0) == '(' ? 1 : 0)
            + (seventh == '(' ? 1 : 0)));
      }
      text(open + "1" + Due.times(")", brackets));
      earlyEnd(open.toString());
    }
    goesOn("((((((", SIMPLE);
    goesOn("!!!!!!", SIMPLE);
    goesOn("------", SIMPLE);
    goesOn("n*(!-(!-", SIMPLE);
    goesOn("(!-(!", OPERAND);
  }

  // six in each place where an O stands, and no seventh
  private static void sixInEachPlace() {
    String[] ahead = {"n;", "n?", "n?n;", "n?n;n?", "n|", "n&", "n<", "n=", "n>", "n+", "n-", "n*", "n/", "n%", "n?n<n&n-"};
    for (String a : ahead) {
      for (char opening : OPENING.toCharArray()) {
        String six = a + Due.times("" + opening, 6);
        fault(six + opening, six.length());
        text(six + "n" + (opening == '(' ? "))))))" : ""));
        text(a + "n-" + six.substring(a.length()) + "n" + (opening == '(' ? "))))))" : ""));
      }
    }
  }

  // "open at once": what is ended is open no more
  private static void endedOnes() {
    goesOn("((((((n", SIGNS + COMPARING + ")");
    goesOn("((((((n+", SIMPLE);
    goesOn("((((((n)", SIGNS + COMPARING + ")");
    goesOn("((((((n)+", OPERAND);
    goesOn("((((((n))))))", BEHIND);
    goesOn("!!!!!!n+", OPERAND);
    goesOn("------n-", OPERAND);
    goesOn("!!!!!(n+", SIMPLE);
    goesOn("!!!!!(n)+", OPERAND);
    goesOn("(!!!!!n+", OPERAND);
    goesOn("(!!!!!n+!!!!!", SIMPLE);
    fault("!!!!!!n+!!!!!!!", 14);
    text("!!!!!!n+!!!!!!n;!!!!!!n?!!!!!!n");
    // the - between two P is none of them
    text("n-------n");
    fault("n--------n", 8);
    text("((((((n-n))))))");
    text("((((((n-n-n-n-n-n-n))))))");
    fault("((((((n--n", 8);
    fault("(((((n--(n", 8);
  }

  // "( E )": what is open is ended by the same
  private static void brackets() {
    fault(")", 0);
    fault("()", 1);
    fault("n)", 1);
    fault("(n))", 3);
    earlyEnd("(");
    earlyEnd("(n");
    earlyEnd("((n)");
    fault("(n;", 2);
    fault("(n?", 2);
    fault("(n]", 2);
    fault("n(", 1);
    fault("n!", 1);
    fault("(n)(n)", 3);
    fault("(n)n", 3);
    fault("(n)1", 3);
    earlyEnd("!");
    earlyEnd("-");
  }

  private static final String LEAST = "2048*2048*512", MOST = "(2048*2048*512-1)";

  // "Ints that wrap"
  private static void wrapping() {
    holds(LEAST + "<0");
    holds(MOST + ">0");
    holds(LEAST + "+" + LEAST + "=0");
    holds(LEAST + "*2=0");
    holds(LEAST + "-1=" + MOST);
    holds(MOST + "+1=" + LEAST);
    holds(MOST + "+" + MOST + "=-2");
    holds(MOST + "*2=-2");
    holds(MOST + "*" + MOST + "=1");
    holds("-(" + LEAST + ")=" + LEAST);
    holds("0-" + LEAST + "=" + LEAST);
    holds("(" + LEAST + ")*-1=" + LEAST);
    holds("9999*9999*9999<0");
    // what is compared is compared as ints are, not by what lies between
    holds(LEAST + "<1");
    holds("1>" + LEAST);
    holds(LEAST + "<" + MOST);
    holds(MOST + ">-1");
    holds("-1<" + MOST);
  }

  // "/ and % toward 0, by 0 they give 0"
  private static void dividing() {
    int[][] abs = {{7, 2}, {-7, 2}, {7, -2}, {-7, -2}, {1, 2}, {-1, 2}, {6, 3}, {-6, 3}, {8, 9}, {-8, 9}, {9, -9}};
    for (int[] ab : abs) {
      holds("(" + ab[0] + ")/(" + ab[1] + ")=" + ab[0] / ab[1]);
      holds("(" + ab[0] + ")%(" + ab[1] + ")=" + ab[0] % ab[1]);
    }
    for (String a : new String[] {"0", "1", "-1", "9999", "(" + LEAST + ")", MOST}) {
      for (String sign : new String[] {"/", "%"}) {
        holds(a + sign + "0=0");
        holds(a + sign + "(1-1)=0");
        holds("0" + sign + a + "=0");
        // what gives 0 by 0 is worked with like any other 0
        holds("5+" + a + sign + "0=5");
      }
    }
    holds("(" + LEAST + ")/-1=" + LEAST);
    holds("(" + LEAST + ")%-1=0");
    holds(MOST + "/-1=-" + MOST);
    holds("(" + LEAST + ")/1=" + LEAST);
  }

  // "| & < = > ! give 1, 0; all is worked out"
  private static void onesAndZeros() {
    String[] values = {"0", "1", "2", "4", "-1", "(" + LEAST + ")"};
    for (String a : values) {
      holds("(!" + a + ")=" + (a.equals("0") ? 1 : 0));
      for (String b : values) {
        boolean isA = !a.equals("0");
        boolean isB = !b.equals("0");
        holds("(" + a + "|" + b + ")=" + (isA || isB ? 1 : 0));
        holds("(" + a + "&" + b + ")=" + (isA && isB ? 1 : 0));
        holds("(" + a + "=" + b + ")=" + (a.equals(b) ? 1 : 0));
      }
    }
    for (int a = 1; a <= 3; a++) {
      holds("(" + a + "<2)=" + (a < 2 ? 1 : 0));
      holds("(" + a + "=2)=" + (a == 2 ? 1 : 0));
      holds("(" + a + ">2)=" + (a > 2 ? 1 : 0));
    }
    // what need not be known to give 1 or 0 takes nothing away from what is behind it
    gives("(1|7)+(0&7)+4", 5);
    gives("(1|1/0)+(0&1/0)+3", 4);
    gives("1|n;5", 1);
    gives("0&n;5", 0);
  }

  // "The first LINE without a first E, or whose first E is not 0, counts; none: 0."
  private static void whichLine() {
    gives("0?4", 0);
    gives("0?4;0?5", 0);
    gives("0?4;6", 6);
    gives("0?4;1?5;6", 5);
    gives("1?4;1?5;6", 4);
    gives("2?4;6", 4);
    gives("-1?4;6", 4);
    gives(LEAST + "?4;6", 4);
    gives(LEAST + "*2?4;6", 6);
    gives("3;1?4", 3);
    gives("0;4", 0);
    gives("1?0;4", 0);
    gives("!1?4;!0?5;6", 5);
    gives("0?9;0?9;0?9;8", 8);
    gives("n=7?2;3", 2);
    gives("n=6?2;3", 3);
  }

  // "It gives how much is laid (held within 0 .. 9)."
  private static void heldWithin() {
    String[] texts = {"0-1", "0", "1", "8", "9", "10", "11", "9999", "0-9999", LEAST, MOST, "255", "256", "257", "0-256", "265"};
    int[] wants = {0, 0, 1, 8, 9, 9, 9, 9, 0, 0, 9, 9, 9, 9, 0, 9};
    for (int i = 0; i < texts.length; i++) {
      gives(texts[i], wants[i]);
      DustInOrder x = Due.house(0, 0);
      Due.law(x, texts[i]);
      Due.due("28: " + texts[i] + " is laid", x.look(5), wants[i]);
      Due.due("28: " + texts[i] + " lies", x.of(0, 5), wants[i]);
    }
  }

  // "FAULT: the place (from 0) of the first byte with which no TEXT goes on": of several the first
  private static void firstFault() {
    fault("n n n", 1);
    fault("x(((((((", 0);
    fault("12345 ", 4);
    fault("n<n<n;;", 3);
    fault("\u00ff", 0);
    fault("n\u00ff", 1);
    fault("n;x", 2);
    fault("1?2?3;;", 3);
  }

  // "1; -100 less its FAULT; THE TAPE is empty then"; "Without a text: ..."
  private static void lawKept() {
    DustInOrder x = Due.house(0, 9);
    Due.due("8: of nothing", x.law(), -100);
    Due.due("9: without a text still", x.lays(0, 9), 6);
    Due.due("8: a law", Due.law(x, "0?1"), 1);
    Due.due("8: empty then", x.count(1), 0);
    Due.due("9: a text that gives 0 is a text", x.lays(0, 9), 0);
    Due.due("8: of nothing again", x.law(), -100);
    Due.due("9: THE LAW is kept", x.lays(0, 9), 0);
    Due.due("8: another", Due.law(x, "4"), 1);
    Due.due("8: too early", Due.law(x, "5;"), -102);
    Due.due("8: empty then", x.count(1), 0);
    Due.due("9: THE LAW is kept", x.lays(0, 9), 4);
    Due.due("8: what was at fault is gone", Due.law(x, "6"), 1);
    Due.due("9: by the new one", x.lays(0, 9), 6);
    Due.due("8: a shorter one", Due.law(x, "0?7;0?8;0?9;3"), 1);
    Due.due("8: a shorter one", Due.law(x, "0?7"), 1);
    Due.due("9: nothing of the longer one", x.lays(0, 9), 0);
  }

  public static void main(String[] args) {
    feed();
    mostBytes();
    lines();
    linesOfTwo();
    signs();
    numbers();
    names();
    namesAtTheirEnds();
    blanks();
    sixOpen();
    sixInEachPlace();
    endedOnes();
    brackets();
    wrapping();
    dividing();
    onesAndZeros();
    whichLine();
    heldWithin();
    firstFault();
    lawKept();
    Due.end();
  }
}
