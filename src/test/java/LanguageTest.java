import java.io.IOException;
import java.lang.reflect.Array;
import java.lang.reflect.Constructor;
import java.lang.reflect.Field;
import java.lang.reflect.Method;
import java.lang.reflect.Modifier;
import java.nio.file.Files;
import java.nio.file.Path;
import java.util.ArrayDeque;
import java.util.ArrayList;
import java.util.Collections;
import java.util.Deque;
import java.util.IdentityHashMap;
import java.util.List;
import java.util.Set;
import java.util.TreeSet;
import java.util.regex.Matcher;
import java.util.regex.Pattern;

/** The rules of LANGUAGE.md that can be seen in the source and the class; the face is DOC.md's. */
public final class LanguageTest {
  private static int wrong = 0;

  public static void main(String[] args) throws IOException, IllegalAccessException {
    Path root = Path.of(args.length > 0 ? args[0] : ".");
    String source = Files.readString(root.resolve("src/main/java/LeastFailing.java"));
    String code = plain(source);
    face(Files.readString(root.resolve("../shared/DOC.md")));
    classes();
    words(code);
    methods(code);
    room();
    made(code);
    System.out.println(wrong == 0 ? "the language is kept to" : wrong + " rules are broken");
    if (wrong != 0) System.exit(1);
  }

  private static void check(boolean good, String what) {
    if (good) return;
    wrong++;
    System.out.println(what);
  }

  /** Without comments; signs in quotes are blanks, so that brackets can be counted. */
  private static String plain(String source) {
    Matcher m = Pattern.compile("/\\*.*?\\*/|//[^\n]*|'(\\\\.|[^'\\\\])'|\"(\\\\.|[^\"\\\\])*\"", Pattern.DOTALL).matcher(source);
    return m.replaceAll(r -> r.group().replaceAll("[^\n]", " "));
  }

  private static void face(String document) {
    Set<String> due = new TreeSet<>();
    Matcher m = Pattern.compile("public (?:static final )?(\\w+) (\\w+)(\\([^)]*\\))?").matcher(document);
    int start = document.indexOf("## The public face");
    int end = document.indexOf("## Terms");
    m.region(start, end);
    while (m.find()) {
      if (m.group(1).equals("final")) continue;
      String parameters = m.group(3) == null ? "" : m.group(3).replaceAll("(\\w+) \\w+", "$1");
      due.add(m.group(1) + " " + m.group(2) + parameters);
    }
    Set<String> there = new TreeSet<>();
    for (Method f : LeastFailing.class.getDeclaredMethods()) {
      if (Modifier.isPrivate(f.getModifiers())) continue;
      check(Modifier.isPublic(f.getModifiers()) && !Modifier.isStatic(f.getModifiers()), "not of the face: " + f);
      there.add(f.getReturnType().getSimpleName() + " " + f.getName() + parametersOf(f.getParameterTypes()));
    }
    for (Field f : LeastFailing.class.getDeclaredFields()) {
      if (!Modifier.isPrivate(f.getModifiers())) there.add(f.getType().getSimpleName() + " " + f.getName());
    }
    check(due.size() == 32, "the face has 31 methods and a constant: " + due.size());
    check(due.equals(there), "the face is " + there + ", due is " + due);
    Constructor<?>[] made = LeastFailing.class.getDeclaredConstructors();
    check(made.length == 1 && Modifier.isPublic(made[0].getModifiers()) && made[0].getParameterCount() == 0,
        "one public constructor");
    check(Modifier.isFinal(LeastFailing.class.getModifiers()), "the class is final");
  }

  private static String parametersOf(Class<?>[] types) {
    List<String> names = new ArrayList<>();
    for (Class<?> t : types) names.add(t.getSimpleName());
    return "(" + String.join(", ", names) + ")";
  }

  private static void classes() {
    Set<String> open = new TreeSet<>();
    for (Method f : LeastFailing.class.getDeclaredMethods()) {
      if (Modifier.isPublic(f.getModifiers())) open.add(f.getName());
    }
    List<Class<?>> all = new ArrayList<>(List.of(LeastFailing.class.getDeclaredClasses()));
    all.add(LeastFailing.class);
    check(all.size() <= 14, "classes: " + all.size());
    for (Class<?> c : all) {
      boolean outer = c == LeastFailing.class;
      check(outer || Modifier.isStatic(c.getModifiers()), "not static: " + c);
      check(outer || !Modifier.isPublic(c.getModifiers()), "public: " + c);
      check(c.getDeclaredClasses().length == 0 || outer, "classes inside " + c);
      int fields = 0;
      for (Field f : c.getDeclaredFields()) {
        if (f.isSynthetic() || f.isEnumConstant()) continue;
        if (!Modifier.isStatic(f.getModifiers())) fields++;
        else check(Modifier.isFinal(f.getModifiers()) && isConstant(f.getType()), "static: " + f);
      }
      check(fields <= 22, "fields of " + c + ": " + fields);
      for (Method f : c.getDeclaredMethods()) {
        check(f.getParameterCount() <= 7, "parameters of " + f);
        check(!Modifier.isPrivate(f.getModifiers()) || !open.contains(f.getName()), "named as one of the face: " + f);
        check(!f.getName().startsWith("lambda$"), "a lambda: " + f);
      }
    }
  }

  /** An array of an enum's constants is one that keeps its values(). */
  private static boolean isConstant(Class<?> type) {
    if (type.isArray() && type.getComponentType().isEnum()) return true;
    return Set.of(int.class, long.class, boolean.class, char.class, String.class, int[].class, long[].class,
        char[].class, byte[].class).contains(type);
  }

  private static void words(String code) {
    for (String word : List.of("throw", "throws", "try", "catch", "finally", "synchronized", "assert", "volatile",
        "transient", "native", "Object", "hashCode", "NaN", "\\w*Exception", "\\w*Error", "Random", "Thread", "Runtime",
        "static \\{")) {
      check(!Pattern.compile("\\b" + word + "(?!\\w)").matcher(code).find(), "the word " + word);
    }
    for (String line : code.split("\n")) {
      check(!line.contains("->") || line.matches("\\s*(case\\b.*|default\\s*)->.*"), "a lambda: " + line);
    }
    check(!code.contains("::"), "a reference of a method");
    check(!code.contains("package "), "a package line");
    Matcher m = Pattern.compile("import ([^;]+);").matcher(code);
    Set<String> imports = Set.of("java.util.Arrays", "java.util.ArrayList", "java.util.List", "java.util.Iterator");
    while (m.find()) check(imports.contains(m.group(1)), "import " + m.group(1));
    m = Pattern.compile("\\b(System|Arrays)\\.(\\w+)").matcher(code);
    Set<String> known = Set.of("System.arraycopy", "Arrays.fill", "Arrays.copyOf", "Arrays.copyOfRange");
    while (m.find()) check(known.contains(m.group()), "of the library: " + m.group());
    m = Pattern.compile("\\b(Math|Integer|Long)\\.(\\w+)").matcher(code);
    Set<String> numbers = Set.of("compare", "max", "min", "abs", "bitCount", "floorDiv", "floorMod", "signum", "sum",
        "numberOfLeadingZeros", "numberOfTrailingZeros", "highestOneBit", "lowestOneBit", "reverse", "rotateLeft",
        "rotateRight", "MAX_VALUE", "MIN_VALUE");
    while (m.find()) check(numbers.contains(m.group(2)), "of the library: " + m.group());
    m = Pattern.compile("\\bnew \\w+(<\\w*>)?\\([^;{}]*\\)\\s*\\{").matcher(code);
    while (m.find()) check(false, "a class without a name: " + m.group());
  }

  private static void methods(String code) {
    Matcher m = Pattern.compile("\n( {4}| {8})(?! )[\\w\\[\\] ]+\\([^;{}]*\\) \\{\n").matcher(code);
    int many = 0;
    while (m.find()) {
      if (Pattern.compile("^\\s*(if|for|while|switch|else|return)\\b").matcher(m.group()).find()) continue;
      int end = code.indexOf("\n" + m.group(1) + "}", m.start());
      int lines = (int) code.substring(m.start(1), end).chars().filter(c -> c == '\n').count() + 1;
      check(lines <= 66, lines + " lines:" + m.group());
      many++;
    }
    check(many >= 32, "methods seen: " + many);
  }

  /** What an object keeps is made with it: a small part of the room of 600,000 objects, 7.3 million elements. */
  private static void room() throws IllegalAccessException {
    Set<Object> seen = Collections.newSetFromMap(new IdentityHashMap<>());
    Deque<Object> open = new ArrayDeque<>(List.of(new LeastFailing()));
    long elements = 0;
    while (!open.isEmpty()) {
      Object o = open.pop();
      if (!seen.add(o)) continue;
      if (o.getClass().isArray()) {
        int length = Array.getLength(o);
        elements += length;
        boolean plain = o.getClass().getComponentType().isPrimitive();
        for (int i = 0; i < length && !plain; i++) if (Array.get(o, i) != null) open.push(Array.get(o, i));
        continue;
      }
      for (Field f : o.getClass().getDeclaredFields()) {
        if (Modifier.isStatic(f.getModifiers())) continue;
        elements++;
        f.setAccessible(true);
        if (!f.getType().isPrimitive() && f.get(o) != null) open.push(f.get(o));
      }
    }
    check(seen.size() <= 1000, "objects kept: " + seen.size());
    check(elements <= 50000, "elements kept: " + elements);
  }

  /** Nothing is made by a call: new stands in fields and constructors alone. */
  private static void made(String code) {
    Matcher m = Pattern.compile("\n( {4}| {8})(?! )([\\w\\[\\] ]+)\\([^;{}]*\\) \\{\n").matcher(code);
    while (m.find()) {
      if (!m.group(2).strip().contains(" ") || m.group(2).strip().equals("public LeastFailing")) continue;
      int end = code.indexOf("\n" + m.group(1) + "}", m.start());
      check(!Pattern.compile("\\b(new|clone|copyOf|copyOfRange|values)\\b").matcher(code.substring(m.start(), end)).find(),
          "makes something: " + m.group(2).strip());
    }
  }
}
