import java.math.BigInteger;
import java.util.ArrayDeque;
import java.util.ArrayList;
import java.util.Arrays;
import java.util.Collections;
import java.util.Deque;
import java.util.IdentityHashMap;
import java.util.LinkedHashMap;
import java.util.List;
import java.util.Map;
import java.util.Set;
import java.util.function.Predicate;
import java.util.regex.Matcher;
import java.util.regex.Pattern;

/**
 * The document's words once more, written as plainly as the Java library allows and apart from
 * LeastFailing: ModelTest holds the two against each other.
 */
final class Model {
  static final Set<String> OWN = Set.of(
      "form", "leaf", "bug", "odds", "when", "or", "and", "not", "size", "deep", "has", "under", "next");

  static final class Fault extends Exception {
    private static final long serialVersionUID = 1L;
    final int kind;
    final int place;

    Fault(int kind, int place) {
      this.kind = kind;
      this.place = place;
    }
  }

  /** kind: w a word, n a number, s a sign, e the end, x what can stand nowhere. */
  record Token(char kind, String text, int place) {
    boolean is(String what) {
      return kind != 'x' && text.equals(what);
    }

    boolean name() {
      return kind == 'w' && !OWN.contains(text);
    }
  }

  record Line(String name, int sort, boolean form, List<Integer> behind, boolean star) {
    int needed() {
      return star ? behind.size() - 1 : behind.size();
    }
  }

  record Bug(String name, int odds, Predicate<Tree> test) {}

  record Entry(int nodes, int verdict, int reason, int where) {}

  record Place(Tree tree, Tree parent, int index, int level) {}

  record Change(int node, int kind, int other) {}

  static final class Tree {
    final int line;
    final List<Tree> parts = new ArrayList<>();

    Tree(int line) {
      this.line = line;
    }

    int size() {
      int n = 1;
      for (Tree t : parts) n += t.size();
      return n;
    }

    Tree copy() {
      Tree t = new Tree(line);
      for (Tree p : parts) t.parts.add(p.copy());
      return t;
    }

    @Override public String toString() {
      StringBuilder b = new StringBuilder().append(line).append('[');
      for (Tree p : parts) b.append(p).append(' ');
      return b.append(']').toString();
    }
  }

  byte[] tape = new byte[0];
  int fault = 0;
  int faultPlace = -1;
  List<Line> lines = new ArrayList<>();
  List<String> sorts = new ArrayList<>();
  List<Tree> leasts = new ArrayList<>();
  Tree input = null;
  List<Bug> bugs = new ArrayList<>();
  int votes = 1;
  long seed = 1;
  int again = 0;
  int runs = 0;
  int out = 0;
  final Map<String, Entry> tried = new LinkedHashMap<>();
  final Deque<List<Tree>> past = new ArrayDeque<>();

  // ---- reading

  private List<Token> tokens;
  private int at;

  private void split() {
    String s = new String(tape, java.nio.charset.StandardCharsets.ISO_8859_1);
    tokens = new ArrayList<>();
    at = 0;
    Matcher m = Pattern.compile("[a-z]+|[0-9]+|[^ \n]", Pattern.DOTALL).matcher(s);
    int before = -1;
    while (m.find()) {
      String t = m.group();
      char c = t.charAt(0);
      char kind = c >= 'a' && c <= 'z' ? 'w' : c >= '0' && c <= '9' ? 'n' : 's';
      boolean glued = kind != 's' && m.start() == before;
      boolean tooLong = (kind == 'w' && t.length() > 6) || (kind == 'n' && t.length() > 3);
      tokens.add(new Token(glued || tooLong ? 'x' : kind, t, m.start()));
      before = kind == 's' ? -1 : m.end();
    }
    tokens.add(new Token('e', "", tape.length));
  }

  private Token peek() {
    return tokens.get(at);
  }

  private void check(boolean good, int kind) throws Fault {
    if (!good) throw new Fault(kind, peek().place());
  }

  private void pass(String what) throws Fault {
    check(peek().is(what), 1);
    at++;
  }

  private String passName() throws Fault {
    check(peek().name(), 1);
    return tokens.get(at++).text();
  }

  private void readGrammar() throws Fault {
    List<Line> newLines = new ArrayList<>();
    List<String> newSorts = new ArrayList<>();
    do {
      boolean form = peek().is("form");
      check(form || peek().is("leaf"), 1);
      check(newLines.size() < 24, 4);
      at++;
      check(peek().name(), 1);
      for (Line l : newLines) check(!l.name().equals(peek().text()), 3);
      String name = passName();
      int sort = readSort(newSorts);
      List<Integer> behind = new ArrayList<>();
      boolean star = false;
      if (form) {
        pass(":");
        while (!star && !peek().is(";")) {
          check(peek().name(), 1);
          check(behind.size() < 4, 4);
          behind.add(readSort(newSorts));
          if (peek().is("*")) {
            star = true;
            at++;
          }
        }
      }
      pass(";");
      newLines.add(new Line(name, sort, form, behind, star));
    } while (peek().kind() != 'e');
    List<Tree> newLeasts = findLeasts(newLines, newSorts.size());
    check(!newLeasts.contains(null), 5);
    lines = newLines;
    sorts = newSorts;
    leasts = newLeasts;
  }

  private int readSort(List<String> known) throws Fault {
    check(peek().name(), 1);
    if (!known.contains(peek().text())) {
      check(known.size() < 6, 4);
      known.add(peek().text());
    }
    return known.indexOf(passName());
  }

  /** Sizes first, from all too large downwards; then each TREE by its sizes. */
  private static List<Tree> findLeasts(List<Line> lines, int sorts) {
    long[] size = new long[sorts];
    long never = 1L << 40;
    Arrays.fill(size, never);
    for (int round = 0; round < 50; round++) {
      for (Line l : lines) size[l.sort()] = Math.min(size[l.sort()], leastOf(l, size, never));
    }
    List<Tree> found = new ArrayList<>();
    for (int s = 0; s < sorts; s++) found.add(size[s] >= never ? null : build(lines, s, size, never));
    return found;
  }

  private static long leastOf(Line l, long[] size, long never) {
    long n = 1;
    for (int i = 0; i < l.needed(); i++) n = Math.min(never, n + size[l.behind().get(i)]);
    return n;
  }

  private static Tree build(List<Line> lines, int sort, long[] size, long never) {
    for (int i = 0; i < lines.size(); i++) {
      Line l = lines.get(i);
      if (l.sort() != sort || leastOf(l, size, never) != size[sort]) continue;
      Tree t = new Tree(i);
      for (int p = 0; p < l.needed(); p++) t.parts.add(build(lines, l.behind().get(p), size, never));
      return t;
    }
    throw new IllegalStateException();
  }

  private int nodesRead;
  /** The 81st NODE is a form: the document does not say whether its FAULT is at the ( or at the NAME. */
  boolean leftOpen = false;

  private Tree readTree(int sort, int open) throws Fault {
    boolean form = peek().is("(");
    if (form) {
      leftOpen = nodesRead == 80;
      check(nodesRead < 80 && open < 12, 4);
      at++;
    }
    check(peek().name(), 1);
    int line = lineOf(peek().text());
    check(line >= 0, 3);
    check(nodesRead < 80, 4);
    Line l = lines.get(line);
    check(l.form() == form && l.sort() == sort, 5);
    nodesRead++;
    at++;
    Tree t = new Tree(line);
    if (!form) return t;
    while (!peek().is(")")) {
      int i = t.parts.size();
      int due = i < l.needed() ? l.behind().get(i) : l.star() ? l.behind().get(l.needed()) : -1;
      t.parts.add(readTree(due, open + 1));
    }
    check(t.parts.size() >= l.needed(), 5);
    at++;
    return t;
  }

  private int lineOf(String name) {
    for (int i = 0; i < lines.size(); i++) if (lines.get(i).name().equals(name)) return i;
    return -1;
  }

  private List<Bug> readBugs() throws Fault {
    List<Bug> read = new ArrayList<>();
    while (peek().kind() != 'e') {
      check(peek().is("bug"), 1);
      check(read.size() < 6, 4);
      at++;
      check(peek().name(), 1);
      for (Bug b : read) check(!b.name().equals(peek().text()), 3);
      String name = passName();
      pass("odds");
      check(peek().kind() == 'n', 1);
      int odds = Integer.parseInt(peek().text());
      check(odds >= 1 && odds <= 100, 2);
      at++;
      pass("when");
      Predicate<Tree> test = readTest(0);
      pass(";");
      read.add(new Bug(name, odds, test));
    }
    return read;
  }

  private Predicate<Tree> readTest(int open) throws Fault {
    Predicate<Tree> left = readBoth(open);
    while (peek().is("or")) {
      at++;
      left = left.or(readBoth(open));
    }
    return left;
  }

  private Predicate<Tree> readBoth(int open) throws Fault {
    Predicate<Tree> left = readFact(open);
    while (peek().is("and")) {
      at++;
      left = left.and(readFact(open));
    }
    return left;
  }

  private Predicate<Tree> readFact(int open) throws Fault {
    if (peek().is("not")) {
      check(open < 6, 4);
      at++;
      return readFact(open + 1).negate();
    }
    if (peek().is("[")) {
      check(open < 6, 4);
      at++;
      Predicate<Tree> inner = readTest(open + 1);
      pass("]");
      return inner;
    }
    int what = List.of("size", "deep", "has", "under", "next").indexOf(peek().text());
    check(what >= 0 && peek().kind() == 'w', 1);
    at++;
    int a = what >= 2 ? readKnown() : -1;
    int b = what >= 3 ? readKnown() : -1;
    String sign = peek().text();
    check(peek().kind() == 's' && "<>=".contains(sign), 1);
    at++;
    check(peek().kind() == 'n', 1);
    int n = Integer.parseInt(tokens.get(at++).text());
    return t -> {
      int c = Integer.compare(countOf(t, what, a, b), n);
      return sign.equals("<") ? c < 0 : sign.equals(">") ? c > 0 : c == 0;
    };
  }

  private int readKnown() throws Fault {
    check(peek().name(), 1);
    check(lineOf(peek().text()) >= 0, 3);
    return lineOf(passName());
  }

  // ---- trees

  List<Place> places(Tree root) {
    List<Place> all = new ArrayList<>();
    if (root != null) walk(root, null, -1, 0, all);
    return all;
  }

  private void walk(Tree t, Tree parent, int index, int level, List<Place> all) {
    all.add(new Place(t, parent, index, level));
    for (int i = 0; i < t.parts.size(); i++) walk(t.parts.get(i), t, i, level + 1, all);
  }

  int deepest(Tree t) {
    int d = 0;
    for (Place p : places(t)) d = Math.max(d, p.level());
    return d;
  }

  int countOf(Tree root, int what, int a, int b) {
    if (what == 0) return root.size();
    if (what == 1) return deepest(root);
    if (what == 2) return (int) places(root).stream().filter(p -> p.tree().line == a).count();
    if (what == 3) return below(root, false, a, b);
    int n = 0;
    for (Place p : places(root)) {
      List<Tree> parts = p.tree().parts;
      for (int i = 1; i < parts.size(); i++) {
        if (parts.get(i - 1).line == a && parts.get(i).line == b) n++;
      }
    }
    return n;
  }

  private int below(Tree t, boolean inside, int a, int b) {
    int n = inside && t.line == b ? 1 : 0;
    for (Tree p : t.parts) n += below(p, inside || t.line == a, a, b);
    return n;
  }

  private int sortOf(Tree t) {
    return lines.get(t.line).sort();
  }

  private boolean starred(Place p) {
    return p.parent() != null && p.index() >= lines.get(p.parent().line).needed();
  }

  private boolean shrinks(Tree t) {
    return leasts.get(sortOf(t)).size() < t.size();
  }

  List<Change> changes(Tree root) {
    List<Change> all = new ArrayList<>();
    List<Place> places = places(root);
    for (int k = 0; k < places.size(); k++) {
      Tree t = places.get(k).tree();
      if (starred(places.get(k))) all.add(new Change(k, 0, -1));
      if (shrinks(t)) all.add(new Change(k, 1, -1));
      for (int j = k + 1; j < k + t.size(); j++) {
        if (sortOf(places.get(j).tree()) == sortOf(t)) all.add(new Change(k, 2, j));
      }
    }
    return all;
  }

  Tree changed(Tree root, Change c) {
    Tree copy = root.copy();
    List<Place> places = places(copy);
    Place p = places.get(c.node());
    if (c.kind() == 0) {
      p.parent().parts.remove(p.index());
      return copy;
    }
    Tree by = c.kind() == 1 ? leasts.get(sortOf(p.tree())).copy() : places.get(c.other()).tree().copy();
    if (p.parent() == null) return by;
    p.parent().parts.set(p.index(), by);
    return copy;
  }

  // ---- verdicts

  private int draw(int m) {
    seed = (1103515245L * seed + 12345) % (1L << 31);
    return (int) (seed / 64 % m);
  }

  private int runOf(Tree t) {
    for (int b = 0; b < bugs.size(); b++) {
      Bug bug = bugs.get(b);
      if (bug.test().test(t) && (bug.odds() == 100 || draw(100) < bug.odds())) return b;
    }
    return -1;
  }

  private int verdictOf(Tree t, int reason, int where) {
    String key = t.toString();
    if (tried.containsKey(key)) {
      again++;
      return tried.get(key).verdict();
    }
    if (tried.size() >= 600) {
      out++;
      return -1;
    }
    List<Integer> told = new ArrayList<>();
    for (int i = 0; i < votes; i++) told.add(runOf(t));
    runs += votes;
    int best = -1;
    int most = 0;
    for (int b = 0; b < bugs.size(); b++) {
      if (Collections.frequency(told, b) > most) {
        most = Collections.frequency(told, b);
        best = b;
      }
    }
    if (Collections.frequency(told, -1) > most) best = -1;
    tried.put(key, new Entry(t.size(), best, reason, where));
    return best;
  }

  private int bitsOf(Tree t) {
    int bits = 0;
    for (int b = 0; b < bugs.size(); b++) if (bugs.get(b).test().test(t)) bits |= 1 << b;
    return bits;
  }

  // ---- reducing

  private int taken;

  private boolean take(Tree t, int bug, int reason, int where) {
    if (verdictOf(t, reason, where) != bug) return false;
    taken++;
    return true;
  }

  private List<Tree> rowOf(Tree root, int level) {
    List<Tree> row = new ArrayList<>();
    for (Place p : places(root)) {
      if (p.level() == level && (starred(p) || shrinks(p.tree()))) row.add(p.tree());
    }
    return row;
  }

  /** Changes those NODES of the root in place, so that all others stay the same objects. */
  private void changeRow(Tree root, Set<Tree> which) {
    List<Place> places = places(root);
    Collections.reverse(places);
    for (Place p : places) {
      if (!which.contains(p.tree())) continue;
      if (starred(p)) {
        p.parent().parts.remove(p.index());
      } else {
        p.parent().parts.set(p.index(), leasts.get(sortOf(p.tree())).copy());
      }
    }
  }

  private static Set<Tree> setOf(List<Tree> trees) {
    Set<Tree> set = Collections.newSetFromMap(new IdentityHashMap<>());
    set.addAll(trees);
    return set;
  }

  private boolean takeRow(List<Tree> which, int bug, int reason, int level) {
    Tree copy = input.copy();
    List<Place> from = places(input);
    List<Place> to = places(copy);
    Set<Tree> chosen = setOf(which);
    List<Tree> twins = new ArrayList<>();
    for (int i = 0; i < from.size(); i++) {
      if (chosen.contains(from.get(i).tree())) twins.add(to.get(i).tree());
    }
    changeRow(copy, setOf(twins));
    if (!take(copy, bug, reason, level)) return false;
    changeRow(input, chosen);
    if (!input.toString().equals(copy.toString())) throw new IllegalStateException();
    return true;
  }

  private static List<Tree> without(List<Tree> row, List<Tree> part) {
    List<Tree> rest = new ArrayList<>(row);
    Set<Tree> gone = setOf(part);
    rest.removeIf(gone::contains);
    return rest;
  }

  private static List<Tree> partOf(List<Tree> row, int n, int i) {
    return new ArrayList<>(row.subList(i * row.size() / n, (i + 1) * row.size() / n));
  }

  private void byLevels(int bug) {
    for (int level = 1; level <= deepest(input); level++) {
      List<Tree> row = rowOf(input, level);
      if (row.isEmpty() || takeRow(row, bug, 1, level)) continue;
      int n = 2;
      anew:
      while (row.size() >= 2) {
        for (int i = 0; i < n; i++) {
          List<Tree> part = partOf(row, n, i);
          if (takeRow(without(row, part), bug, 2, level)) {
            row = part;
            n = 2;
            continue anew;
          }
        }
        for (int i = 0; n > 2 && i < n; i++) {
          List<Tree> part = partOf(row, n, i);
          if (takeRow(part, bug, 3, level)) {
            row = without(row, part);
            n--;
            continue anew;
          }
        }
        if (n >= row.size()) break;
        n = Math.min(2 * n, row.size());
      }
    }
  }

  private void bySingles(int bug, boolean hoists) {
    int k = 0;
    anew:
    while (k < input.size()) {
      for (Change c : changes(input)) {
        if (c.node() != k || (c.kind() == 2) != hoists) continue;
        Tree t = changed(input, c);
        if (take(t, bug, hoists ? 4 : 5, k)) {
          input = t;
          continue anew;
        }
      }
      k++;
    }
  }

  // ---- the face

  int feed(int a, int b, int c, int d, int e) {
    if (tape.length > 980) return -1;
    java.nio.ByteBuffer buffer = java.nio.ByteBuffer.allocate(tape.length + 20);
    buffer.put(tape).putInt(a).putInt(b).putInt(c).putInt(d).putInt(e);
    tape = buffer.array();
    return tape.length;
  }

  boolean end(int n) {
    if (n < 0 || n > tape.length) return false;
    tape = Arrays.copyOf(tape, n);
    return true;
  }

  private interface Reading {
    void read() throws Fault;
  }

  private boolean reads(Reading reading) {
    split();
    boolean good = true;
    fault = 0;
    faultPlace = -1;
    try {
      reading.read();
    } catch (Fault f) {
      fault = f.kind;
      faultPlace = f.place;
      good = false;
    }
    tape = new byte[0];
    return good;
  }

  int grammar() {
    if (!reads(this::readGrammar)) return -1;
    input = null;
    bugs = new ArrayList<>();
    past.clear();
    tried.clear();
    return lines.size();
  }

  int input() {
    if (lines.isEmpty()) {
      tape = new byte[0];
      return -3;
    }
    List<Tree> got = new ArrayList<>();
    nodesRead = 0;
    leftOpen = false;
    boolean good = reads(() -> {
      got.add(readTree(0, 0));
      check(peek().kind() == 'e', 1);
    });
    if (!good) return -1;
    remember();
    input = got.get(0);
    tried.clear();
    return input.size();
  }

  int bugs() {
    if (lines.isEmpty()) {
      tape = new byte[0];
      return -3;
    }
    List<Bug> got = new ArrayList<>();
    if (!reads(() -> got.addAll(readBugs()))) return -1;
    bugs = got;
    tried.clear();
    return bugs.size();
  }

  private void remember() {
    past.addLast(input == null ? List.of() : List.of(input.copy()));
    if (past.size() > 10) past.removeFirst();
  }

  int fault(int what) {
    return what == 0 ? fault : what == 1 ? faultPlace : -1;
  }

  int votes(int n) {
    if (!List.of(1, 3, 5, 7, 9).contains(n)) return -2;
    int was = votes;
    votes = n;
    tried.clear();
    return was;
  }

  int seed(int x) {
    if (x < 0) return -2;
    seed = x;
    tried.clear();
    return 1;
  }

  int count(int what) {
    int[] all = {lines.size(), sorts.size(), input == null ? 0 : input.size(), bugs.size(), votes, tried.size(),
        again, runs, out, (int) seed, past.size(), input == null ? -1 : deepest(input)};
    return what < 0 || what >= all.length ? -1 : all[what];
  }

  int letter(int kind, int k, int i) {
    if (kind < 0 || kind > 2 || i < 0 || i > 5) return -1;
    int many = kind == 0 ? lines.size() : kind == 1 ? sorts.size() : bugs.size();
    if (k < 0 || k >= many) return -1;
    String s = kind == 0 ? lines.get(k).name() : kind == 1 ? sorts.get(k) : bugs.get(k).name();
    return i < s.length() ? s.charAt(i) - 'a' + 1 : 0;
  }

  int line(int line, int what) {
    if (line < 0 || line >= lines.size()) return -1;
    Line l = lines.get(line);
    if (what >= 10) return what - 10 < l.behind().size() ? l.behind().get(what - 10) : -1;
    return what == 0 ? (l.form() ? 1 : 0) : what == 1 ? l.sort() : what == 2 ? l.behind().size()
        : what == 3 ? (l.star() ? 1 : 0) : -1;
  }

  int least(int sort, int k) {
    if (sort < 0 || sort >= sorts.size()) return -1;
    List<Place> all = places(leasts.get(sort));
    if (k == -1) return all.size();
    return k < 0 || k >= all.size() ? -1 : all.get(k).tree().line;
  }

  int node(int node, int what) {
    List<Place> all = places(input);
    if (node < 0 || node >= all.size() || what < 0 || what > 7) return -2;
    Place p = all.get(node);
    int parent = -1;
    for (int i = 0; i < all.size(); i++) if (all.get(i).tree() == p.parent()) parent = i;
    int[] answers = {p.tree().line, sortOf(p.tree()), p.level(), p.tree().size(), p.tree().parts.size(), parent,
        p.index(), starred(p) ? 1 : 0};
    return answers[what];
  }

  int holding() {
    return input == null ? -1 : bitsOf(input);
  }

  int counts(int what, int a, int b) {
    if (input == null || what < 0 || what > 4) return -1;
    if (what >= 2 && (a < 0 || a >= lines.size())) return -1;
    if (what >= 3 && (b < 0 || b >= lines.size())) return -1;
    return countOf(input, what, a, b);
  }

  int verdict() {
    return input == null ? -1 : verdictOf(input, 0, -1);
  }

  int run(int x) {
    return howOften(x, 1, -1) < 0 ? -1 : lastTold;
  }

  private int lastTold;

  private int howOften(int x, int n, int bug) {
    if (x < 0 || input == null) return -1;
    long kept = seed;
    seed = x;
    int many = 0;
    for (int i = 0; i < n; i++) {
      lastTold = runOf(input);
      if (lastTold == bug) many++;
    }
    seed = kept;
    return many;
  }

  int single(int k, int what) {
    List<Change> all = input == null ? List.of() : changes(input);
    if (k == -1) return what == 0 ? all.size() : -1;
    if (k < 0 || k >= all.size()) return -1;
    Change c = all.get(k);
    switch (what) {
      case 0: return c.node();
      case 1: return c.kind();
      case 2: return c.other();
      case 3: return changed(input, c).size();
      case 4: return bitsOf(changed(input, c));
      default: return -1;
    }
  }

  int tries(int k) {
    if (input == null || k < 0 || k >= changes(input).size()) return -2;
    Change c = changes(input).get(k);
    return verdictOf(changed(input, c), 6, c.node());
  }

  int change(int k) {
    if (input == null || k < 0 || k >= changes(input).size()) return -2;
    remember();
    input = changed(input, changes(input).get(k));
    return input.size();
  }

  int more() {
    int due = verdict();
    if (due == -1) return -3;
    int many = changes(input).size();
    for (int k = 0; k < many; k++) if (tries(k) == due) return k;
    return -1;
  }

  int apart(int bug, int other) {
    if (bug < 0 || bug >= bugs.size() || other < 0 || other >= bugs.size() || bug == other) return -2;
    if (input == null) return -3;
    List<Change> all = changes(input);
    for (int k = 0; k < all.size(); k++) {
      Tree t = changed(input, all.get(k));
      if (bugs.get(bug).test().test(t) && !bugs.get(other).test().test(t)) return k;
    }
    return -1;
  }

  int reduce(int bug, int how) {
    if (bug < 0 || bug >= bugs.size() || how < 0 || how > 3) return -2;
    if (input == null || verdict() != bug) return -3;
    remember();
    input = input.copy();
    taken = 0;
    int before;
    do {
      before = taken;
      if (how == 0 || how == 3) byLevels(bug);
      if (how == 1 || how == 3) bySingles(bug, true);
      if (how == 2 || how == 3) bySingles(bug, false);
    } while (how == 3 && taken > before);
    return taken;
  }

  int row(int level, int k) {
    if (input == null || level < 1) return -1;
    List<Tree> row = rowOf(input, level);
    if (k == -1) return row.size();
    if (k < 0 || k >= row.size()) return -1;
    List<Place> all = places(input);
    for (int i = 0; i < all.size(); i++) if (all.get(i).tree() == row.get(k)) return i;
    throw new IllegalStateException();
  }

  int part(int many, int n, int i, int what) {
    if (many < 1 || many > 80 || n < 1 || n > many || i < 0 || i >= n || what < 0 || what > 1) return -1;
    int from = (int) Math.floor(i * many / (double) n);
    int to = (int) Math.floor((i + 1) * many / (double) n);
    return what == 0 ? from : to - from;
  }

  int tried(int verdict) {
    if (verdict < -1 || verdict >= bugs.size()) return -2;
    return (int) tried.values().stream().filter(e -> e.verdict() == verdict).count();
  }

  int trace(int k, int what) {
    if (k < 0 || k >= tried.size() || what < 0 || what > 3) return -2;
    Entry e = new ArrayList<>(tried.values()).get(k);
    return what == 0 ? e.nodes() : what == 1 ? e.verdict() : what == 2 ? e.reason() : e.where();
  }

  int sure(int odds, int n) {
    if (odds < 0 || odds > 100 || !List.of(1, 3, 5, 7, 9).contains(n)) return -2;
    // Of all rows of n RUNS, told as bits, those with more than half of them showing.
    BigInteger sum = BigInteger.ZERO;
    for (int row = 0; row < 1 << n; row++) {
      int shown = Integer.bitCount(row);
      if (2 * shown <= n) continue;
      sum = sum.add(BigInteger.valueOf(odds).pow(shown).multiply(BigInteger.valueOf(100 - odds).pow(n - shown)));
    }
    return sum.multiply(BigInteger.valueOf(1000000)).divide(BigInteger.valueOf(100).pow(n)).intValue();
  }

  int enough(int odds, int sure) {
    if (odds < 0 || odds > 100 || sure < 0 || sure > 1000000) return -2;
    for (int n : new int[] {1, 3, 5, 7, 9}) if (sure(odds, n) >= sure) return n;
    return -1;
  }

  int often(int bug, int x, int n) {
    if (bug < -1 || bug >= bugs.size() || x < 0 || n < 1 || n > 1000) return -2;
    return input == null ? -3 : howOften(x, n, bug);
  }

  int undo() {
    if (past.isEmpty()) return -3;
    List<Tree> was = past.removeLast();
    input = was.isEmpty() ? null : was.get(0);
    tried.clear();
    return past.size();
  }
}
