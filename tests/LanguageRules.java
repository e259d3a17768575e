import java.lang.reflect.Constructor;
import java.lang.reflect.Field;
import java.lang.reflect.Method;
import java.lang.reflect.Modifier;
import java.nio.charset.StandardCharsets;
import java.nio.file.Files;
import java.nio.file.Path;
import java.util.ArrayList;
import java.util.Arrays;
import java.util.List;
import java.util.Set;
import java.util.TreeSet;
import java.util.regex.Matcher;
import java.util.regex.Pattern;

/** The rules of LANGUAGE.md, as far as the source and the compiled class tell them by themselves. */
public final class LanguageRules {
  private static final String[] FACE = {
    "int sill(int,int)", "int sills(int,int,int)", "int mend(int,int,int)", "int of(int,int)", "int layer(int,int,int)",
    "int feed(int)", "int law()", "int lays(int,int)", "int later(int,int,int,int)", "int laid(int,int,int,int)",
    "int breath(int,int,int)", "int clear(int,int)", "int touch(int,int,int)", "int tellsOf(int)", "int fewest(int,int)",
    "int corner()", "long ways(int,int)", "int first(int,int,int)", "int least(int)", "int certain(int,int)",
    "int alike(int,int)", "int same(int)", "long likely(int,int)", "int expected()", "int judge(int,int)",
    "int drawn(int,int,int,int)", "int look(int)", "int blow(int,int)", "int sweep(int)", "int led(int)", "int image()",
    "int back()", "int undo()", "int redo()", "int body(int)", "int act(int,int,int)", "int trace(int)",
    "int keep(int,int)", "int row(int,int,int)", "int put(int,int,long)", "long element(int,int)",
    "int shift(int,int,int,int,int)", "int taken(int,int)", "int count(int)"
  };

  private static int wrong = 0;

  private static void rule(int number, boolean holds, String what) {
    if (!holds) {
      wrong++;
      System.out.println("rule " + number + ": " + what);
    }
  }

  private static String told(Method m) {
    StringBuilder t = new StringBuilder(m.getReturnType().getName()).append(' ').append(m.getName()).append('(');
    for (Class<?> p : m.getParameterTypes()) {
      t.append(t.charAt(t.length() - 1) == '(' ? "" : ",").append(p.getName());
    }
    return t.append(')').toString();
  }

  private static void face() {
    Class<?> c = DustInOrder.class;
    rule(1, Modifier.isPublic(c.getModifiers()) && Modifier.isFinal(c.getModifiers()), "the class is public and final");
    Set<String> open = new TreeSet<>();
    Set<String> names = new TreeSet<>();
    for (Method m : c.getDeclaredMethods()) {
      if (!Modifier.isPrivate(m.getModifiers()) && !m.isSynthetic()) {
        rule(1, Modifier.isPublic(m.getModifiers()) && !Modifier.isStatic(m.getModifiers()), "open: " + m);
        open.add(told(m));
        names.add(m.getName());
      }
    }
    rule(1, open.equals(new TreeSet<>(Arrays.asList(FACE))), "the methods are not just the face's: " + open);
    Set<String> constants = new TreeSet<>();
    for (Field f : c.getDeclaredFields()) {
      if (!Modifier.isPrivate(f.getModifiers())) {
        constants.add(Modifier.toString(f.getModifiers()) + " " + f.getType() + " " + f.getName());
      }
    }
    rule(1, constants.equals(new TreeSet<>(Arrays.asList("public static final int BAD", "public static final int NOT",
        "public static final int FULL", "public static final int STATE", "public static final int VOID"))),
        "the constants are not just the face's: " + constants);
    Constructor<?>[] made = c.getDeclaredConstructors();
    rule(1, made.length == 1 && Modifier.isPublic(made[0].getModifiers()) && made[0].getParameterCount() == 0,
        "the constructor is not just the face's");
    for (Class<?> one : all()) {
      for (Method m : one.getDeclaredMethods()) {
        boolean isOpen = one == c && Modifier.isPublic(m.getModifiers());
        rule(1, isOpen || !names.contains(m.getName()), "bears the name of a public one: " + m);
        rule(11, m.getParameterCount() <= 7, "more than seven parameters: " + m);
        rule(6, !Arrays.asList("equals", "hashCode", "toString").contains(m.getName()), "its own: " + m);
      }
    }
  }

  private static List<Class<?>> all() {
    List<Class<?>> l = new ArrayList<>(Arrays.asList(DustInOrder.class.getDeclaredClasses()));
    l.add(0, DustInOrder.class);
    return l;
  }

  private static void classes() {
    rule(11, all().size() <= 13, "more than some twelve classes");
    for (Class<?> one : all()) {
      boolean isOuter = one == DustInOrder.class;
      rule(1, isOuter || !Modifier.isPublic(one.getModifiers()) && !Modifier.isProtected(one.getModifiers()), "open: " + one);
      rule(2, isOuter || Modifier.isStatic(one.getModifiers()), "not static: " + one);
      rule(2, isOuter || one.getDeclaredClasses().length == 0, "a class within a class within: " + one);
      int fields = 0;
      for (Field f : one.getDeclaredFields()) {
        if (f.isSynthetic()) {
          continue;
        }
        boolean isStatic = Modifier.isStatic(f.getModifiers());
        fields += isStatic ? 0 : 1;
        rule(5, !isStatic || Modifier.isFinal(f.getModifiers()), "static, not final: " + f);
        rule(5, !isStatic || f.getType().isPrimitive() || f.getType() == String.class || f.getType() == int[].class,
            "static, of no kind that is left: " + f);
      }
      rule(11, fields <= 20, "more than twenty fields: " + one);
    }
  }

  /** The source without its comments, and with nothing between the quotes. */
  private static String bare(String source) {
    String text = source.replaceAll("(?s)/\\*.*?\\*/", " ").replaceAll("//[^\n]*", " ");
    return text.replaceAll("'(\\\\.|[^'\\\\])'", "' '").replaceAll("\"(\\\\.|[^\"\\\\])*\"", "\" \"");
  }

  private static void words(String text) {
    rule(4, !text.contains("\""), "a text where none is needed");
    for (String word : new String[] {"throw", "throws", "try", "catch", "finally", "synchronized", "assert", "record", "yield"}) {
      rule(6, !Pattern.compile("\\b" + word + "\\b").matcher(text).find(), "the word " + word);
    }
    rule(2, !text.contains("->") && !text.contains("::"), "a lambda or a method reference");
    rule(6, !text.contains("instanceof"), "instanceof, where no cast is needed");
    rule(13, !Pattern.compile("\\b(Random|Thread|Files?|Scanner|Instant|LocalDate|nanoTime|getenv)\\b").matcher(text).find(),
        "a clock, randomness, a file, a thread");
    Matcher imports = Pattern.compile("import ([^;]+);").matcher(text);
    while (imports.find()) {
      rule(4, imports.group(1).equals("java.util.Arrays"), "import " + imports.group(1));
    }
    Matcher calls = Pattern.compile("\\b(System|Math|Arrays|Integer|Long)\\.(\\w+)").matcher(text);
    Set<String> left = new TreeSet<>(Arrays.asList("System.arraycopy", "Math.max", "Math.min", "Arrays.fill", "Integer.bitCount"));
    while (calls.find()) {
      rule(4, left.contains(calls.group()), "calls " + calls.group());
    }
    Matcher fills = Pattern.compile("Arrays\\.fill\\(([^;]*)\\);").matcher(text);
    while (fills.find()) {
      rule(4, fills.group(1).split(",").length == 2, "fills a part: " + fills.group());
    }
    rule(3, !Pattern.compile("\\b(double|float)\\b").matcher(text).find(), "a double where none is needed");
    rule(1, !Pattern.compile("^\\s*package\\b").matcher(text).find(), "a package line");
  }

  private static void lengths(String source) {
    String[] lines = source.split("\n");
    int from = -1;
    for (int i = 0; i < lines.length; i++) {
      if (from < 0 && lines[i].matches(" {2,4}\\S.*\\) \\{")) {
        from = i;
      } else if (from >= 0 && lines[i].matches(" {2,4}\\}")) {
        rule(11, i - from + 1 <= 60, "a method of " + (i - from + 1) + " lines at line " + (from + 1));
        from = -1;
      }
      rule(3, lines[i].chars().allMatch(c -> c < 128), "a sign that is none of ASCII at line " + (i + 1));
    }
  }

  public static void main(String[] args) throws Exception {
    String source = new String(Files.readAllBytes(Path.of("src/main/java/DustInOrder.java")), StandardCharsets.UTF_8);
    face();
    classes();
    words(bare(source));
    lengths(source);
    System.out.println(wrong + " breaches of the language's rules");
    if (wrong != 0) {
      System.exit(1);
    }
  }
}
