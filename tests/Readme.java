import java.io.IOException;
import java.lang.reflect.Method;
import java.lang.reflect.Modifier;
import java.nio.charset.StandardCharsets;
import java.nio.file.Files;
import java.nio.file.Path;
import java.util.ArrayList;
import java.util.List;
import java.util.Map;
import java.util.Random;
import java.util.TreeMap;
import java.util.TreeSet;
import java.util.regex.Matcher;
import java.util.regex.Pattern;
import java.util.stream.Stream;

/**
 * README.md: its example is the file that it names, its commands run on a copy of the checkout and print what it says,
 * and its tables tell the constants, the calls, and just the refusals that calls answer.
 */
public final class Readme {
  private static final Path CHECKOUT = Path.of("").toAbsolutePath();
  private static final int[] EDGES = {-1, 0, 1, 2, 3, 5, 7, 9, 10, 12, 13, 40, 41, 60, 61, 66, 99, 100, 101, 255, 256, 3040,
    Integer.MAX_VALUE, Integer.MIN_VALUE};

  private static int held = 0;
  private static int wrong = 0;

  private static void holds(String what, Object got, Object said) {
    held++;
    if (!got.equals(said)) {
      wrong++;
      System.out.println(what + ":\n" + got + "\nREADME.md says:\n" + said);
    }
  }

  private static String read(Path file) throws IOException {
    return Files.readString(file, StandardCharsets.UTF_8);
  }

  /** The fenced blocks, each with the kind that it is told to be of. */
  private static List<String[]> blocks(String page) {
    List<String[]> all = new ArrayList<>();
    Matcher m = Pattern.compile("(?ms)^```(\\w+)\n(.*?)^```$").matcher(page);
    while (m.find()) {
      all.add(new String[] {m.group(1), m.group(2)});
    }
    return all;
  }

  // ---- its commands

  /** A checkout with nothing that was compiled, and ../shared beside it. */
  private static Path copy() throws IOException {
    Path room = Files.createTempDirectory("readme");
    Files.createSymbolicLink(room.resolve("shared"), CHECKOUT.resolve("../shared").toRealPath());
    Path copy = Files.createDirectory(room.resolve("main"));
    for (String part : new String[] {"src", "tests", "examples", ".ci", "README.md"}) {
      try (Stream<Path> files = Files.walk(CHECKOUT.resolve(part))) {
        for (Path file : (Iterable<Path>) files::iterator) {
          Files.copy(file, copy.resolve(CHECKOUT.relativize(file).toString()));
        }
      }
    }
    return copy;
  }

  private static void remove(Path room) throws IOException {
    try (Stream<Path> files = Files.walk(room)) {
      List<Path> all = new ArrayList<>(files.toList());
      all.sort((a, b) -> b.compareTo(a));
      for (Path file : all) {
        Files.delete(file);
      }
    }
  }

  private static String run(Path in, String command) throws Exception {
    Process p = new ProcessBuilder("bash", "-c", command).directory(in.toFile()).redirectErrorStream(true).start();
    String printed = new String(p.getInputStream().readAllBytes(), StandardCharsets.UTF_8);
    int end = p.waitFor();
    holds("'" + command + "' ended by, behind " + printed, end, 0);
    return printed;
  }

  private static void commands(String page) throws Exception {
    Path copy = copy();
    String printed = "";
    int commands = 0;
    for (String[] block : blocks(page)) {
      if (block[0].equals("java")) {
        holds("the example", read(copy.resolve("examples/ReadASill.java")), block[1]);
      } else if (block[0].equals("text")) {
        holds("what was printed", printed, block[1]);
      } else {
        holds("a block of another kind", block[0], "sh");
        StringBuilder all = new StringBuilder();
        for (String command : block[1].split("\n")) {
          commands++;
          all.append(isThisScript(command) ? "" : run(copy, command));
        }
        printed = all.toString();
      }
    }
    holds("how many commands", commands >= 7, true);
    remove(copy.getParent());
  }

  /** .ci/run runs this test, too: that it can be called is enough. */
  private static boolean isThisScript(String command) {
    if (!command.equals(".ci/run")) {
      return false;
    }
    holds(".ci/run can be called", Files.isExecutable(CHECKOUT.resolve(command)), true);
    return true;
  }

  /** Each file that it names is there, and each test that is there is named. */
  private static void files(String page) throws IOException {
    Matcher m = Pattern.compile("`([\\w./]*\\w+\\.(?:java|md))`").matcher(page);
    TreeSet<String> tests = new TreeSet<>();
    while (m.find()) {
      String name = m.group(1);
      Path file = CHECKOUT.resolve(name.contains("/") ? name : "tests/" + name);
      holds(name + " is there", Files.exists(file), true);
      if (file.getParent().endsWith("tests") && name.endsWith(".java")) {
        tests.add(file.getFileName().toString());
      }
    }
    try (Stream<Path> all = Files.list(CHECKOUT.resolve("tests"))) {
      TreeSet<String> there = new TreeSet<>(all.map(f -> f.getFileName().toString()).filter(f -> f.endsWith(".java")).toList());
      holds("the tests", there, tests);
    }
  }

  // ---- its tables

  private static void constants(String page) throws Exception {
    TreeSet<String> told = new TreeSet<>();
    Matcher m = Pattern.compile("(?m)^\\| (-\\d+) \\| `(\\w+)` \\|").matcher(page);
    while (m.find()) {
      told.add(m.group(2) + " " + m.group(1));
    }
    holds("VOID", page.contains("`VOID` (" + DustInOrder.VOID + ")"), true);
    TreeSet<String> there = new TreeSet<>();
    for (java.lang.reflect.Field f : DustInOrder.class.getFields()) {
      if (!f.getName().equals("VOID")) {
        there.add(f.getName() + " " + f.getInt(null));
      }
    }
    holds("the constants", there, told);
  }

  /** A house of this or that: full or empty of SILLS, BODIES, bytes; looked at, mended; SHELVES of all kinds. */
  private static DustInOrder furnished(Random random) {
    DustInOrder x = new DustInOrder();
    for (int i = random.nextInt(7); i > 0; i--) {
      x.sill(random.nextInt(10), random.nextInt(10));
    }
    for (int i = random.nextInt(3) * random.nextInt(20); i > 0; i--) {
      x.look(random.nextInt(66));
      x.mend(random.nextInt(6), random.nextInt(4), random.nextInt(10));
    }
    for (int i = random.nextInt(4) == 0 ? 50 : random.nextInt(9); i > 0; i--) {
      x.body(random.nextInt(8));
    }
    for (int i = random.nextInt(4) == 0 ? 120 : random.nextInt(9); i > 0; i--) {
      x.feed(random.nextInt(256));
    }
    for (int shelf = 0; shelf < 6; shelf++) {
      if (random.nextBoolean()) {
        x.row(shelf, random.nextInt(3) == 0 ? random.nextInt(5) : 0, random.nextInt(8));
        x.put(shelf, random.nextInt(8), random.nextInt(70));
      } else if (random.nextBoolean()) {
        x.keep(shelf, random.nextInt(9));
      }
    }
    return x;
  }

  /** What an answer refuses by; "": it is none. */
  private static String refusal(long answer) {
    switch ((int) Math.max(answer, -20)) {
      case DustInOrder.BAD:
        return "BAD";
      case DustInOrder.NOT:
        return "NOT";
      case DustInOrder.FULL:
        return "FULL";
      case DustInOrder.STATE:
        return "STATE";
      default:
        return answer == Long.MIN_VALUE ? "Long.MIN_VALUE" : answer < 0 ? "" + answer : "";
    }
  }

  private static TreeSet<String> refusals(Method call) throws Exception {
    TreeSet<String> all = new TreeSet<>();
    Random random = new Random(9);
    for (int round = 0; round < 3000; round++) {
      DustInOrder x = furnished(random);
      Object[] args = new Object[call.getParameterCount()];
      for (int i = 0; i < args.length; i++) {
        int v = random.nextInt(5) > 0 ? random.nextInt(6) : EDGES[random.nextInt(EDGES.length)];
        args[i] = call.getParameterTypes()[i] == long.class ? (Object) (long) v : (Object) v;
      }
      all.add(refusal(((Number) call.invoke(x, args)).longValue()));
    }
    all.remove("");
    return all;
  }

  private static void calls(String page) throws Exception {
    Map<String, TreeSet<String>> told = new TreeMap<>();
    Matcher row = Pattern.compile("(?m)^\\| `(\\w+)\\(([^)]*)\\)` \\|.*\\|([^|]*)\\|$").matcher(page);
    while (row.find()) {
      TreeSet<String> by = new TreeSet<>();
      Matcher m = Pattern.compile("BAD|NOT|FULL|STATE|-1\\d|Long.MIN_VALUE").matcher(row.group(3));
      while (m.find()) {
        by.add(m.group());
      }
      int many = row.group(2).isEmpty() ? 0 : row.group(2).split(",").length;
      told.put(row.group(1) + " of " + many, by);
    }
    TreeSet<String> there = new TreeSet<>();
    for (Method call : DustInOrder.class.getDeclaredMethods()) {
      String name = call.getName() + " of " + call.getParameterCount();
      if (Modifier.isPublic(call.getModifiers())) {
        there.add(name);
        // what these two answer below 0 is no refusal
        boolean isFree = call.getName().equals("act") || call.getName().equals("law");
        holds("what " + name + " refuses by", isFree ? new TreeSet<String>() : refusals(call), told.getOrDefault(name, new TreeSet<>()));
      }
    }
    holds("the calls", there, new TreeSet<>(told.keySet()));
  }

  public static void main(String[] args) throws Exception {
    String page = read(CHECKOUT.resolve("README.md"));
    commands(page);
    files(page);
    constants(page);
    calls(page);
    System.out.println(held + " things that README.md says, " + wrong + " do not hold");
    if (wrong != 0) {
      System.exit(1);
    }
  }
}
