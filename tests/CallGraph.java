import java.io.PrintWriter;
import java.io.StringWriter;
import java.lang.reflect.Field;
import java.nio.file.Path;
import java.util.ArrayList;
import java.util.Arrays;
import java.util.List;
import java.util.Map;
import java.util.Set;
import java.util.TreeMap;
import java.util.TreeSet;
import java.util.regex.Matcher;
import java.util.regex.Pattern;
import java.util.spi.ToolProvider;

/** The rules of LANGUAGE.md that the compiled code tells: what is called, how deep, by which recursion, of what kinds. */
public final class CallGraph {
  // "calls that are no recursion go at most eight deep"
  private static final int DEEPEST = 8;
  private static final Set<String> LIBRARY = new TreeSet<>(Arrays.asList("java/lang/Object.<init>:()V",
      "java/lang/System.arraycopy:(Ljava/lang/Object;ILjava/lang/Object;II)V", "java/lang/Math.max:(II)I",
      "java/lang/Math.min:(II)I", "java/lang/Integer.bitCount:(I)I", "java/util/Arrays.fill:([JJ)V",
      "java/util/Arrays.fill:([II)V", "java/util/Arrays.fill:([BB)V"));

  private static final Pattern METHOD = Pattern.compile("  (private |public |protected |static |final |abstract )*(\\S+ )?(\\S+)\\((.*)\\)( throws .*)?;");
  private static final Pattern STEP = Pattern.compile("\\s+\\d+: (\\w+)(?:\\s+(?:#?\\d+)(?:,\\s+\\d+)?)?(?:\\s+// (\\w+) (\\S+))?.*");
  private static final Pattern LEFT_OUT = Pattern.compile("athrow|monitor\\w+|invokedynamic|invokeinterface|checkcast|instanceof"
      + "|multianewarray|[df](load|store|add|sub|mul|div|rem|neg|cmp|const|aload|astore|return).*|[ilf]2[df]|[df]2.");

  private static final Map<String, Set<String>> calls = new TreeMap<>();
  private static final Set<String> hidden = new TreeSet<>();
  private static int wrong = 0;
  private static int steps = 0;

  private static void rule(int number, boolean holds, String what) {
    if (!holds) {
      wrong++;
      System.out.println("rule " + number + ": " + what);
    }
  }

  private static List<Class<?>> classes() {
    List<Class<?>> all = new ArrayList<>(Arrays.asList(DustInOrder.class.getDeclaredClasses()));
    all.add(DustInOrder.class);
    return all;
  }

  private static String codeOf(Class<?> one) throws Exception {
    String from = Path.of(one.getProtectionDomain().getCodeSource().getLocation().toURI()).toString();
    StringWriter told = new StringWriter();
    PrintWriter into = new PrintWriter(told);
    int end = ToolProvider.findFirst("javap").orElseThrow().run(into, into, "-p", "-c", "-s", "-cp", from, one.getName());
    if (end != 0) {
      throw new IllegalStateException(told.toString());
    }
    return told.toString();
  }

  /** Reads what javap tells: of each method its descriptor (which comes behind its head), then its steps. */
  private static void read(Class<?> one) throws Exception {
    String head = null;
    String method = null;
    for (String line : codeOf(one).split("\n")) {
      Matcher begins = METHOD.matcher(line);
      Matcher step = STEP.matcher(line);
      if (begins.matches()) {
        boolean isMaker = begins.group(3).equals(one.getName());
        head = one.getName() + "." + (isMaker ? "<init>" : begins.group(3));
        rule(6, begins.group(5) == null, head + " says that it throws");
        method = null;
        if (line.startsWith("  private ")) {
          head = "private " + head;
        }
      } else if (line.startsWith("  static {}")) {
        head = one.getName() + ".<clinit>";
        method = null;
      } else if (head != null && method == null && line.startsWith("    descriptor: ")) {
        boolean isHidden = head.startsWith("private ");
        method = (isHidden ? head.substring(8) : head) + ":" + line.substring(16).trim();
        calls.put(method, new TreeSet<>());
        if (isHidden) {
          hidden.add(method);
        }
      } else if (method != null && step.matches()) {
        step(one, method, step.group(1), step.group(2), step.group(3));
      } else if (line.contains("Exception table")) {
        rule(6, false, method + " catches");
      }
    }
  }

  private static void step(Class<?> one, String method, String does, String kind, String what) {
    steps++;
    int number = does.startsWith("invoke") ? 2 : does.matches("athrow|monitor.*|checkcast|instanceof") ? 6 : 3;
    rule(number, !LEFT_OUT.matcher(does).matches(), method + " does " + does);
    rule(5, !does.equals("putstatic") || method.contains("<clinit>"), method + " changes " + what);
    if (!"Method".equals(kind)) {
      return;
    }
    String called = what.replace("\"", "");
    // javap leaves out the class where it is the same one
    called = called.lastIndexOf('.', called.indexOf(':')) < 0 ? one.getName() + "." + called : called;
    calls.get(method).add(called);
  }

  private static void library() {
    for (String method : calls.keySet()) {
      for (String called : calls.get(method)) {
        rule(4, calls.containsKey(called) || LIBRARY.contains(called), method + " calls " + called);
      }
    }
  }

  private static Set<String> reached(String from) {
    Set<String> all = new TreeSet<>();
    List<String> next = new ArrayList<>(calls.get(from));
    while (!next.isEmpty()) {
      String m = next.remove(next.size() - 1);
      if (calls.containsKey(m) && all.add(m)) {
        next.addAll(calls.get(m));
      }
    }
    return all;
  }

  /** Rule 8 names private methods alone; rule 11 counts what is no recursion. */
  private static void depths() {
    Map<String, Set<String>> reached = new TreeMap<>();
    for (String m : calls.keySet()) {
      reached.put(m, reached(m));
    }
    int deepest = 0;
    int recursive = 0;
    for (String m : calls.keySet()) {
      if (reached.get(m).contains(m)) {
        recursive++;
        rule(8, hidden.contains(m), "calls itself by a way, and is not private: " + m);
        rule(8, !calls.get(m).contains(m), "calls itself, and is not static: " + m);
      }
      int deep = depth(m, reached);
      rule(11, deep <= DEEPEST, m + " goes " + deep + " deep");
      deepest = Math.max(deepest, deep);
    }
    System.out.println(calls.size() + " methods, " + recursive + " of them recursive, " + deepest + " deep at most");
    rule(11, recursive > 0 && deepest > 3, "nothing was read");
  }

  /** How many methods stand open at most, of those that call one another one alone. */
  private static int depth(String from, Map<String, Set<String>> reached) {
    int most = 0;
    Set<String> group = new TreeSet<>(reached.get(from));
    group.removeIf(m -> !reached.get(m).contains(from));
    group.add(from);
    for (String m : group) {
      for (String called : calls.get(m)) {
        if (calls.containsKey(called) && !group.contains(called)) {
          most = Math.max(most, depth(called, reached));
        }
      }
    }
    return most + 1;
  }

  /** "int, long, short, byte, char, boolean ...; arrays of these and of your own classes, of one dimension". */
  private static void kinds() {
    List<Class<?>> own = classes();
    for (Class<?> one : own) {
      for (Field f : one.getDeclaredFields()) {
        Class<?> kind = f.getType().isArray() ? f.getType().getComponentType() : f.getType();
        rule(3, kind.isPrimitive() && kind != double.class && kind != float.class || own.contains(kind), "of no kind: " + f);
      }
      rule(2, one.getSuperclass() == Object.class && one.getInterfaces().length == 0, "under another one: " + one);
    }
  }

  public static void main(String[] args) throws Exception {
    for (Class<?> one : classes()) {
      read(one);
    }
    library();
    depths();
    kinds();
    rule(6, steps > 3000, "only " + steps + " steps were read");
    System.out.println(steps + " steps read, " + wrong + " breaches of the language's rules");
    if (wrong != 0) {
      System.exit(1);
    }
  }
}
