import java.io.IOException;
import java.lang.reflect.InvocationTargetException;
import java.lang.reflect.Method;
import java.nio.file.Files;
import java.nio.file.Path;
import java.util.ArrayList;
import java.util.LinkedHashMap;
import java.util.List;
import java.util.Map;
import java.util.TreeMap;
import java.util.regex.Matcher;
import java.util.regex.Pattern;

/**
 * Runs every boundary test: a method with the words of the document that it holds the class to. The
 * words have to stand in the document where they are said to, and no sentence of the terms or of a
 * promise may be without a test. {@code -Dlist=true} lists the tests by the places of their words.
 */
public final class BoundaryTest {
  private static final List<Class<?>> TESTS =
      List.of(TextBoundaries.class, FaultBoundaries.class, TreeBoundaries.class, CallBoundaries.class);

  private BoundaryTest() {}

  public static void main(String[] args) throws IOException {
    Path root = Path.of(args.length > 0 ? args[0] : ".");
    Map<String, String> sections = sections(Files.readString(root.resolve("../shared/DOC.md")));
    Map<String, Method> tests = tests();
    Due.start("BoundaryTest");
    checkWords(sections, tests);
    for (Map.Entry<String, Method> t : tests.entrySet()) run(t.getKey(), t.getValue());
    System.out.println(tests.size() + " boundary tests, " + Due.wrong() + " answers not as due");
    if (Due.wrong() != 0) System.exit(1);
  }

  private static Map<String, Method> tests() {
    Map<String, Method> all = new TreeMap<>();
    for (Class<?> c : TESTS) {
      for (Method m : c.getDeclaredMethods()) {
        Says says = m.getAnnotation(Says.class);
        if (says == null) continue;
        if (all.put(m.getName(), m) != null) throw new IllegalStateException("two tests named " + m.getName());
      }
    }
    return all;
  }

  static void run(String name, Method test) {
    Says says = test.getAnnotation(Says.class);
    Due.start(name + " (" + says.in() + ": \"" + says.words() + "\")");
    try {
      test.setAccessible(true);
      test.invoke(null);
    } catch (InvocationTargetException e) {
      Due.fail("threw " + e.getCause());
    } catch (IllegalAccessException e) {
      throw new IllegalStateException(e);
    }
  }

  /** The document's parts that promise something, by their names. */
  private static Map<String, String> sections(String document) {
    Map<String, String> all = new LinkedHashMap<>();
    all.put("What it is", between(document, "## What it is", "## The public face"));
    String terms = between(document, "## Terms", "The constants:");
    all.put("Terms I", between(terms, "I. Texts:", "\nII. "));
    all.put("Terms II", between(terms, "\nII. ", "\nIII. "));
    all.put("Terms III", terms.substring(terms.indexOf("\nIII. ") + "\nIII. ".length()));
    all.put("Constants", between(document, "The constants:", "Ahead of the calls"));
    for (int i = 1; i <= 32; i++) {
      String promise = between(document, "## Promise " + i + ":", i < 32 ? "## Promise " : "## Not promised");
      all.put("Promise " + i, promise.substring(promise.indexOf('\n')));
    }
    return all;
  }

  private static String between(String s, String from, String to) {
    int start = s.indexOf(from);
    int end = start < 0 ? -1 : s.indexOf(to, start + from.length());
    if (end < 0) throw new IllegalStateException("the document has no " + from + " .. " + to);
    return s.substring(start + from.length(), end);
  }

  private static void checkWords(Map<String, String> sections, Map<String, Method> tests) {
    for (Map.Entry<String, String> section : sections.entrySet()) {
      String text = section.getValue();
      boolean[] tested = new boolean[text.length()];
      for (Method m : tests.values()) {
        Says says = m.getAnnotation(Says.class);
        if (!sections.containsKey(says.in())) Due.fail(m.getName() + " is of no part: " + says.in());
        if (!says.in().equals(section.getKey())) continue;
        int at = text.indexOf(says.words());
        if (at < 0) Due.fail(m.getName() + " has words that do not stand in " + says.in() + ": " + says.words());
        for (int i = 0; at >= 0 && i < says.words().length(); i++) tested[at + i] = true;
        if (Boolean.getBoolean("list")) System.out.println(says.in() + ": \"" + says.words() + "\": " + m.getName());
      }
      if (section.getKey().equals("What it is")) continue;
      for (String untested : untested(text, tested)) Due.fail(section.getKey() + " has no test of: " + untested);
    }
  }

  /** What stands between stops, colons outside of code, and has no test. */
  private static List<String> untested(String text, boolean[] tested) {
    List<String> all = new ArrayList<>();
    Matcher m = Pattern.compile("`[^`\n]*`:?|```\\w*|[^.;`]+(?:\\.\\. [^.;`]+)*").matcher(text);
    while (m.find()) {
      if (m.group().startsWith("`") || !m.group().matches("(?s).*[A-Za-z0-9].*")) continue;
      boolean any = false;
      for (int i = m.start(); i < m.end(); i++) any |= tested[i];
      if (!any) all.add(m.group().strip());
    }
    return all;
  }
}
