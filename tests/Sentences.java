import java.io.IOException;
import java.nio.charset.StandardCharsets;
import java.nio.file.Files;
import java.nio.file.Path;
import java.util.HashMap;
import java.util.Map;
import java.util.TreeSet;
import java.util.regex.Matcher;
import java.util.regex.Pattern;

/** tests/SENTENCES.md: the document's sentences, none left out, and under each tests that are there and are run. */
public final class Sentences {
  private static final Map<String, String> SOURCES = new HashMap<>();
  private static int wrong = 0;
  private static int quotes = 0;
  private static final TreeSet<String> named = new TreeSet<>();

  private static void tell(String what) {
    wrong++;
    System.out.println(what);
  }

  private static String read(String file) throws IOException {
    return Files.readString(Path.of(file), StandardCharsets.UTF_8);
  }

  private static String oneLine(String text) {
    return text.replaceAll("\\s+", " ").trim();
  }

  /** What the document says, but for its title, its face's code, and the signs that part its parts. */
  private static String document() throws IOException {
    String text = read("../shared/DOC.md").replaceAll("(?s)```java.*?```", "");
    return oneLine(text.replaceAll("(?m)^(# .*|```.*)$", "").replaceAll("(?m)^=+ \\d ", ""));
  }

  /** The headings and quotes alone, as the document has them. */
  private static String quoted(String page) {
    StringBuilder all = new StringBuilder();
    for (String line : page.split("\n")) {
      if (line.startsWith("## ")) {
        all.append(line).append('\n');
      } else if (line.startsWith("> ")) {
        all.append(line.substring(2)).append('\n');
      }
    }
    return oneLine(all.toString());
  }

  private static void nothingLeftOut(String said, String quoted) {
    if (said.equals(quoted)) {
      return;
    }
    int at = 0;
    while (at < said.length() && at < quoted.length() && said.charAt(at) == quoted.charAt(at)) {
      at++;
    }
    int from = Math.max(0, at - 40);
    tell("the document says:    " + said.substring(from, Math.min(said.length(), at + 60)));
    tell("SENTENCES.md quotes:  " + quoted.substring(from, Math.min(quoted.length(), at + 60)));
  }

  private static String source(String test) throws IOException {
    if (!SOURCES.containsKey(test)) {
      String file = "tests/" + test + ".java";
      SOURCES.put(test, Files.exists(Path.of(file)) ? read(file).replaceAll("(?s)/\\*.*?\\*/|//[^\n]*", " ") : "");
    }
    return SOURCES.get(test);
  }

  private static void isThereAndRun(String test, String method) throws IOException {
    String text = source(test);
    Matcher begins = Pattern.compile("\\bstatic \\w+ " + method + "\\(").matcher(text);
    if (!begins.find()) {
      tell("there is no " + test + "." + method);
      return;
    }
    String rest = text.substring(0, begins.start()) + text.substring(begins.end());
    if (!Pattern.compile("\\b" + method + "\\(").matcher(rest).find()) {
      tell("nothing runs " + test + "." + method);
    }
  }

  /** Under each quote stand tests, or in brackets why there are none. */
  private static void tests(String page) throws IOException {
    String quote = null;
    boolean isHeld = true;
    boolean isBehindQuote = false;
    for (String line : (page + "\n> the end").split("\n")) {
      if (!line.startsWith("> ")) {
        isBehindQuote = false;
        isHeld |= line.startsWith("(") || namesTests(line);
        continue;
      }
      if (!isBehindQuote) {
        if (!isHeld) {
          tell("no test holds: " + quote);
        }
        quotes += quote == null ? 0 : 1;
        quote = line;
        isHeld = false;
      }
      isBehindQuote = true;
    }
  }

  private static boolean namesTests(String line) throws IOException {
    boolean names = false;
    Matcher m = Pattern.compile("\\b([A-Z]\\w+)\\.([a-z]\\w+)(?= |$)").matcher(line);
    while (m.find()) {
      names = true;
      named.add(m.group());
      isThereAndRun(m.group(1), m.group(2));
    }
    return names;
  }

  public static void main(String[] args) throws IOException {
    String page = read("tests/SENTENCES.md");
    nothingLeftOut(document(), quoted(page));
    tests(page);
    if (quotes < 100 || named.size() < 100) {
      tell("only " + quotes + " quotes and " + named.size() + " tests were read");
    }
    System.out.println(quotes + " sentences, " + named.size() + " tests by them, " + wrong + " faults");
    if (wrong != 0) {
      System.exit(1);
    }
  }
}
