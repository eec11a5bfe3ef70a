import java.io.IOException;
import java.lang.reflect.Constructor;
import java.lang.reflect.Field;
import java.lang.reflect.Method;
import java.lang.reflect.Modifier;
import java.nio.file.Files;
import java.nio.file.Path;
import java.util.ArrayList;
import java.util.List;
import java.util.Set;
import java.util.TreeSet;
import java.util.regex.Matcher;
import java.util.regex.Pattern;

/** The rules of LANGUAGE.md that can be seen in the source and the class; the face is DOC.md's. */
public final class LanguageTest {
  private static int wrong = 0;

  public static void main(String[] args) throws IOException {
    Path root = Path.of(args.length > 0 ? args[0] : ".");
    String source = Files.readString(root.resolve("src/main/java/LeastFailing.java"));
    String code = plain(source);
    face(Files.readString(root.resolve("../shared/DOC.md")));
    classes();
    words(code);
    methods(code);
    System.out.println(wrong == 0 ? "the language is kept to" : wrong + " rules are broken");
    if (wrong != 0) System.exit(1);
  }

  private static void check(boolean good, String what) {
    if (good) return;
    wrong++;
    System.out.println(what);
  }

  /** Without comments; signs in quotes are blanks, so that brackets can be counted. */
  private static String plain(String source) {
    Matcher m = Pattern.compile("/\\*.*?\\*/|//[^\n]*|'(\\\\.|[^'\\\\])'|\"(\\\\.|[^\"\\\\])*\"", Pattern.DOTALL).matcher(source);
    return m.replaceAll(r -> r.group().replaceAll("[^\n]", " "));
  }

  private static void face(String document) {
    Set<String> due = new TreeSet<>();
    Matcher m = Pattern.compile("public (?:static final )?(\\w+) (\\w+)(\\([^)]*\\))?").matcher(document);
    int start = document.indexOf("## The public face");
    int end = document.indexOf("## Terms");
    m.region(start, end);
    while (m.find()) {
      if (m.group(1).equals("final")) continue;
      String parameters = m.group(3) == null ? "" : m.group(3).replaceAll("(\\w+) \\w+", "$1");
      due.add(m.group(1) + " " + m.group(2) + parameters);
    }
    Set<String> there = new TreeSet<>();
    for (Method f : LeastFailing.class.getDeclaredMethods()) {
      if (Modifier.isPrivate(f.getModifiers())) continue;
      check(Modifier.isPublic(f.getModifiers()) && !Modifier.isStatic(f.getModifiers()), "not of the face: " + f);
      there.add(f.getReturnType().getSimpleName() + " " + f.getName() + parametersOf(f.getParameterTypes()));
    }
    for (Field f : LeastFailing.class.getDeclaredFields()) {
      if (!Modifier.isPrivate(f.getModifiers())) there.add(f.getType().getSimpleName() + " " + f.getName());
    }
    check(due.size() == 32, "the face has 31 methods and a constant: " + due.size());
    check(due.equals(there), "the face is " + there + ", due is " + due);
    Constructor<?>[] made = LeastFailing.class.getDeclaredConstructors();
    check(made.length == 1 && Modifier.isPublic(made[0].getModifiers()) && made[0].getParameterCount() == 0,
        "one public constructor");
    check(Modifier.isFinal(LeastFailing.class.getModifiers()), "the class is final");
  }

  private static String parametersOf(Class<?>[] types) {
    List<String> names = new ArrayList<>();
    for (Class<?> t : types) names.add(t.getSimpleName());
    return "(" + String.join(", ", names) + ")";
  }

  private static void classes() {
    Set<String> open = new TreeSet<>();
    for (Method f : LeastFailing.class.getDeclaredMethods()) {
      if (Modifier.isPublic(f.getModifiers())) open.add(f.getName());
    }
    List<Class<?>> all = new ArrayList<>(List.of(LeastFailing.class.getDeclaredClasses()));
    all.add(LeastFailing.class);
    check(all.size() <= 12, "classes: " + all.size());
    for (Class<?> c : all) {
      boolean outer = c == LeastFailing.class;
      check(outer || Modifier.isStatic(c.getModifiers()), "not static: " + c);
      check(outer || !Modifier.isPublic(c.getModifiers()), "public: " + c);
      check(c.getDeclaredClasses().length == 0 || outer, "classes inside " + c);
      int fields = 0;
      for (Field f : c.getDeclaredFields()) {
        if (!Modifier.isStatic(f.getModifiers())) fields++;
        else check(Modifier.isFinal(f.getModifiers()) && isConstant(f.getType()), "static: " + f);
      }
      check(fields <= 20, "fields of " + c + ": " + fields);
      for (Method f : c.getDeclaredMethods()) {
        check(f.getParameterCount() <= 7, "parameters of " + f);
        check(Modifier.isPublic(f.getModifiers()) || !open.contains(f.getName()), "named as one of the face: " + f);
        check(!f.isSynthetic(), "synthetic: " + f);
      }
    }
  }

  private static boolean isConstant(Class<?> type) {
    return Set.of(int.class, long.class, boolean.class, char.class, String.class, int[].class, long[].class,
        char[].class, byte[].class).contains(type);
  }

  private static void words(String code) {
    for (String word : List.of("throw", "throws", "try", "catch", "finally", "synchronized", "assert", "volatile",
        "transient", "native", "Object", "hashCode", "toString", "NaN", "Exception", "Error", "Random", "Thread",
        "static \\{", "yield", "var", "goto", "double", "float")) {
      check(!Pattern.compile("\\b" + word + "\\b").matcher(code).find(), "the word " + word);
    }
    check(!code.contains("->") && !code.contains("::"), "a lambda, or a reference of a method");
    check(!code.contains("@"), "an annotation");
    check(!code.contains("\"") && !code.contains("package "), "a text, or a package line");
    Matcher m = Pattern.compile("import ([^;]+);").matcher(code);
    while (m.find()) check(m.group(1).equals("java.util.Arrays"), "import " + m.group(1));
    m = Pattern.compile("\\b(System|Arrays|Math|Integer|Long)\\.(\\w+)").matcher(code);
    Set<String> known = Set.of("System.arraycopy", "Arrays.fill", "Math.min", "Math.max");
    while (m.find()) check(known.contains(m.group()), "of the library: " + m.group());
    m = Pattern.compile("\\bnew \\w+(\\[[^\\]]*\\])?").matcher(code);
    while (m.find()) check(!code.substring(m.end()).startsWith("{"), "a class without a name: " + m.group());
  }

  private static void methods(String code) {
    Matcher m = Pattern.compile("\n( {4}| {8})(?! )[\\w\\[\\] ]+\\([^;{}]*\\) \\{\n").matcher(code);
    int many = 0;
    while (m.find()) {
      if (Pattern.compile("^\\s*(if|for|while|switch|else|return)\\b").matcher(m.group()).find()) continue;
      int end = code.indexOf("\n" + m.group(1) + "}", m.start());
      int lines = (int) code.substring(m.start(1), end).chars().filter(c -> c == '\n').count() + 1;
      check(lines <= 60, lines + " lines:" + m.group());
      many++;
    }
    check(many > 100, "methods seen: " + many);
    for (String line : code.split("\n")) check(line.length() <= 120, "a long line: " + line);
  }
}
