import java.util.ArrayList;
import java.util.List;
import java.util.Random;

/** Makes texts for ModelTest: GRAMMARS, INPUTS, BUGS that are right, and spoiled ones. */
final class Texts {
  private static final String[] NAMES = {"x", "y", "z", "add", "seq", "if", "neg", "call", "abcdef", "lo", "hi", "u",
      "v", "w", "zz", "list", "nil", "cons", "big", "tiny", "odd", "leafs", "o", "nota", "aa", "bb", "cc", "dd"};
  private static final String[] SORTS = {"e", "s", "x", "list", "num", "zzzzzz", "q"};
  private static final String[] OWN = {"form", "leaf", "bug", "odds", "when", "or", "and", "not", "size", "deep",
      "has", "under", "next", "toolong", "0", "7", "100", "101", "1000", "00", "a", "x", ";", ":", "*", "(", ")", "[",
      "]", "<", ">", "=", "#", "\0", "\t", "X", "\u00ff"};
  private static final String[] PLAIN_GRAMMARS = {
      "leaf x e;leaf y e;form add e:e e;form seq e:e*;",
      "leaf x e;form seq e:e*;",
      "form prog p: s*;leaf nop s;form set s:v e;form if s:e s s*;leaf a v;leaf b v;leaf one e;form add e:e e;",
      "form top t: a a*;form a a: b;form b b: c;form c c: d;leaf d d;form wide a: d d d d;form aa a: a a a;",
      "form r r: s s* ;form p s: s* ;form q s: s s s s*;leaf k s;"};

  private final Random random;

  Texts(Random random) {
    this.random = random;
  }

  private boolean chance(int percent) {
    return random.nextInt(100) < percent;
  }

  private String any(String[] of) {
    return of[random.nextInt(of.length)];
  }

  /** Words and signs with blanks where they have to be, and where one likes. */
  String join(List<String> tokens) {
    StringBuilder b = new StringBuilder();
    int style = random.nextInt(3);
    for (String t : tokens) {
      boolean needs = b.length() > 0 && isRun(b.charAt(b.length() - 1)) && isRun(t.charAt(0));
      if (needs || (style == 1 && chance(30)) || (style == 2 && chance(5))) b.append(chance(80) ? ' ' : '\n');
      b.append(t);
    }
    if (chance(10)) b.append("  \n");
    return b.toString();
  }

  private static boolean isRun(char c) {
    return (c >= 'a' && c <= 'z') || (c >= '0' && c <= '9');
  }

  /** Now and then a token or a byte more, less, or another one. */
  String spoiled(List<String> tokens, int percent) {
    if (!chance(percent)) return join(tokens);
    List<String> t = new ArrayList<>(tokens);
    for (int i = 0; i <= random.nextInt(2); i++) {
      int where = random.nextInt(t.size() + 1);
      int how = random.nextInt(5);
      if (how == 0) t.add(where, any(OWN));
      else if (how == 1 && where < t.size()) t.remove(where);
      else if (how == 2 && where < t.size()) t.set(where, any(OWN));
      else if (how == 3 && where < t.size()) t.add(where, t.get(random.nextInt(t.size())));
      else if (where < t.size()) t.set(where, t.get(random.nextInt(t.size())));
    }
    StringBuilder b = new StringBuilder(join(t));
    if (chance(20) && b.length() > 0) {
      int where = random.nextInt(b.length());
      if (chance(40)) b.deleteCharAt(where);
      else if (chance(50)) b.setLength(where);
      else b.setCharAt(where, any(OWN).charAt(0));
    }
    return b.toString();
  }

  List<String> grammar() {
    if (chance(35)) return split(any(PLAIN_GRAMMARS));
    int sorts = 1 + random.nextInt(chance(5) ? 7 : 5);
    int lines = sorts + random.nextInt(chance(10) ? 22 : 7);
    int shift = random.nextInt(NAMES.length);
    List<String> t = new ArrayList<>();
    for (int i = 0; i < lines && i < NAMES.length; i++) {
      String name = NAMES[(i * 5 + shift) % NAMES.length];
      String sort = SORTS[i < sorts ? i : random.nextInt(sorts)];
      boolean form = i < sorts ? chance(30) : chance(75);
      t.addAll(List.of(form ? "form" : "leaf", name, sort));
      if (form) {
        t.add(":");
        int behind = random.nextInt(chance(3) ? 6 : 5);
        for (int k = 0; k < behind; k++) t.add(SORTS[random.nextInt(sorts)]);
        if (behind > 0 && chance(60)) t.add("*");
      }
      t.add(";");
    }
    return t;
  }

  static List<String> split(String s) {
    List<String> t = new ArrayList<>();
    java.util.regex.Matcher m = java.util.regex.Pattern.compile("[a-z]+|[0-9]+|[^ \n]").matcher(s);
    while (m.find()) t.add(m.group());
    return t;
  }

  private int budget;

  List<String> input(Model m) {
    List<String> t = new ArrayList<>();
    budget = chance(10) ? 6 : chance(40) ? 25 : chance(90) ? 78 : 90;
    tree(m, 0, chance(95) ? 12 : 14, t);
    return t;
  }

  private void tree(Model m, int sort, int room, List<String> t) {
    List<Integer> choices = new ArrayList<>();
    for (int i = 0; i < m.lines.size(); i++) if (m.lines.get(i).sort() == sort) choices.add(i);
    Model.Tree least = m.leasts.get(sort);
    int line = choices.get(random.nextInt(choices.size()));
    if (budget < 10 || room < 3 + m.deepest(least)) line = least.line;
    else if (chance(60)) {
      for (int tries = 0; tries < 5 && !m.lines.get(line).form(); tries++) {
        line = choices.get(random.nextInt(choices.size()));
      }
    }
    budget--;
    Model.Line l = m.lines.get(line);
    if (!l.form()) {
      t.add(l.name());
      return;
    }
    t.add("(");
    t.add(l.name());
    for (int i = 0; i < l.needed(); i++) tree(m, l.behind().get(i), room - 1, t);
    int more = l.star() && room > 2 ? random.nextInt(chance(20) ? 12 : 5) : 0;
    for (int i = 0; i < more && budget > 6; i++) tree(m, l.behind().get(l.needed()), room - 1, t);
    t.add(")");
  }

  List<String> bugs(Model m) {
    List<String> t = new ArrayList<>();
    int many = chance(3) ? 7 : 1 + random.nextInt(4);
    if (chance(2)) many = 0;
    for (int i = 0; i < many; i++) {
      int odds = chance(50) ? 100 : 1 + random.nextInt(100);
      t.addAll(List.of("bug", NAMES[(i * 3 + 1) % NAMES.length], "odds", "" + odds, "when"));
      test(m, chance(95) ? 4 : 8, t);
      t.add(";");
    }
    return t;
  }

  /** Bugs of which each holds for one size alone: no SINGLE change fails as the INPUT does. */
  List<String> bugsBySize(Model m) {
    List<String> t = new ArrayList<>();
    for (int i = 0; i < 6; i++) {
      t.addAll(List.of("bug", NAMES[i], "odds", "100", "when", "size", "=", "" + Math.max(0, m.input.size() - i), ";"));
    }
    return t;
  }

  private void test(Model m, int room, List<String> t) {
    fact(m, room, t);
    while (chance(room > 2 ? 45 : 15)) {
      t.add(chance(60) ? "or" : "and");
      fact(m, room, t);
    }
  }

  private void fact(Model m, int room, List<String> t) {
    if (room > 0 && chance(room > 5 ? 70 : 15)) {
      t.add("not");
      fact(m, room - 1, t);
    } else if (room > 0 && chance(room > 5 ? 70 : 15)) {
      t.add("[");
      test(m, room - 1, t);
      t.add("]");
    } else {
      int what = random.nextInt(5);
      int a = random.nextInt(m.lines.size());
      int b = random.nextInt(m.lines.size());
      if (m.input != null && chance(70)) {
        List<Model.Place> all = m.places(m.input);
        a = all.get(random.nextInt(all.size())).tree().line;
        b = all.get(random.nextInt(all.size())).tree().line;
      }
      t.add(new String[] {"size", "deep", "has", "under", "next"}[what]);
      if (what >= 2) t.add(m.lines.get(a).name());
      if (what >= 3) t.add(m.lines.get(b).name());
      int now = m.input == null ? 0 : m.countOf(m.input, what, a, b);
      boolean above = chance(75);
      t.add(above ? ">" : chance(50) ? "<" : "=");
      t.add("" + Math.max(0, above ? random.nextInt(now + 1) - 1 : now + random.nextInt(3) - 1));
    }
  }
}
