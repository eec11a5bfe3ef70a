import java.nio.charset.StandardCharsets;
import java.util.ArrayList;
import java.util.List;
import java.util.Map;
import java.util.Random;
import java.util.TreeMap;
import java.util.TreeSet;

/** Runs of calls by a fixed seed on LeastFailing and Model: each answer has to be the same. */
public final class ModelTest {
  /** With what is begun by then, and the counts at the end, a run stays below 512 calls. */
  private static final int CALLS = 452;
  private static final int[] EXTREMES = {Integer.MIN_VALUE, Integer.MIN_VALUE + 1, -1000, 600, 1000, Integer.MAX_VALUE};
  /** What the runs have to have come by, so that an empty comparison is seen. */
  private static final Map<String, Integer> SEEN = new TreeMap<>();
  private static int wrong = 0;

  private final LeastFailing x = new LeastFailing();
  private final Model m = new Model();
  private final Random random;
  private final Texts texts;
  private final List<String> log = new ArrayList<>();
  private boolean failed = false;

  private ModelTest(long seed) {
    random = new Random(seed);
    texts = new Texts(random);
  }

  public static void main(String[] args) {
    int rounds = Integer.getInteger("rounds", 600);
    int first = Integer.getInteger("first", 0);
    for (int i = first; i < first + rounds && wrong < 5; i++) {
      ModelTest t = new ModelTest(i);
      t.go();
      if (t.failed) {
        wrong++;
        System.out.println("run " + i + ":");
        for (String line : t.log.subList(Math.max(0, t.log.size() - 40), t.log.size())) System.out.println("  " + line);
      }
    }
    if (first == 0 && rounds >= 600) checkSeen();
    if (Boolean.getBoolean("seen")) SEEN.forEach((k, v) -> System.out.println(k + ": " + v));
    System.out.println(wrong == 0 ? "the model agrees" : "the model does not agree");
    if (wrong != 0) System.exit(1);
  }

  private static void checkSeen() {
    TreeSet<String> due = new TreeSet<>();
    for (int f = 1; f <= 5; f++) if (f != 2) due.add("grammar fault " + f);
    for (int f = 1; f <= 5; f++) if (f != 2) due.add("input fault " + f);
    for (int f = 1; f <= 4; f++) due.add("bugs fault " + f);
    for (int how = 0; how <= 3; how++) {
      due.add("reduced " + how);
      due.add("nothing reduced " + how);
    }
    for (int reason = 0; reason <= 6; reason++) due.add("trace " + reason);
    due.addAll(List.of("out", "out of 600", "undone", "undone to none", "ten acts", "more", "no more", "apart", "not apart"));
    due.remove("grammar fault 2");
    for (String d : due) {
      if (!SEEN.containsKey(d)) {
        System.out.println("never seen: " + d);
        wrong++;
      }
    }
  }

  private static void seen(String what) {
    SEEN.merge(what, 1, Integer::sum);
  }

  private int due(String call, int got, int want) {
    log.add(call + " = " + got + (got == want ? "" : ", due is " + want));
    if (got != want) failed = true;
    return want;
  }

  private boolean goesOn() {
    return !failed && log.size() < CALLS - 1;
  }

  private void feed(String text) {
    byte[] b = text.getBytes(StandardCharsets.ISO_8859_1);
    int n = Math.min(b.length, 1000);
    byte[] padded = java.util.Arrays.copyOf(b, (n + 19) / 20 * 20);
    java.nio.ByteBuffer buffer = java.nio.ByteBuffer.wrap(padded);
    while (buffer.remaining() >= 20 && goesOn()) {
      int[] v = {buffer.getInt(), buffer.getInt(), buffer.getInt(), buffer.getInt(), buffer.getInt()};
      due("feed", x.feed(v[0], v[1], v[2], v[3], v[4]), m.feed(v[0], v[1], v[2], v[3], v[4]));
    }
    due("end " + n + " of " + text, x.end(n) ? 1 : 0, m.end(n) ? 1 : 0);
  }

  private void read(int which, int spoiled) {
    String name = which == 0 ? "grammar" : which == 1 ? "input" : "bugs";
    if (which > 0 && m.lines.isEmpty()) {
      feed("leaf");
    } else {
      List<String> t = which == 0 ? texts.grammar() : which == 1 ? texts.input(m) : texts.bugs(m);
      feed(texts.spoiled(t, spoiled));
    }
    if (which == 0) due(name, x.grammar(), m.grammar());
    else if (which == 1) due(name, x.input(), m.input());
    else due(name, x.bugs(), m.bugs());
    if (which != 1 || !m.leftOpen) {
      due("fault 0", x.fault(0), m.fault(0));
      due("fault 1", x.fault(1), m.fault(1));
    }
    seen(name + " fault " + m.fault(0));
  }

  /** More TREES than can be TRIED, without an answer that ends more() early. */
  private void tryMany() {
    if (m.input == null || m.input.size() < 40) return;
    feed(texts.join(texts.bugsBySize(m)));
    due("bugs", x.bugs(), m.bugs());
    for (int i = 0; i < 6 && goesOn(); i++) {
      due("more", x.more(), m.more());
      List<Model.Change> all = m.changes(m.input);
      int k = 0;
      while (k < all.size() && m.changed(m.input, all.get(k)).size() < m.input.size() - 1) k++;
      due("change " + k, x.change(k), m.change(k));
    }
    for (int what = 5; what < 12; what++) due("count " + what, x.count(what), m.count(what));
    if (m.count(8) > 0) seen("out");
    if (m.count(8) > 0 && m.count(5) == 600) seen("out of 600");
  }

  /** Mostly a number that can be, or one just beside; now and then any number. */
  private int some(int below) {
    if (random.nextInt(60) == 0) return random.nextBoolean() ? random.nextInt() : EXTREMES[random.nextInt(EXTREMES.length)];
    return random.nextInt(below + 3) - 2;
  }

  private void go() {
    int spoiled = random.nextInt(3) == 0 ? 60 : 10;
    read(0, spoiled);
    for (int i = 0; i < 4 && m.lines.isEmpty(); i++) read(0, 10);
    for (int i = 0; i < 4 && m.input == null; i++) read(1, spoiled);
    for (int i = 0; i < 4 && m.bugs.isEmpty(); i++) read(2, spoiled);
    boolean talkative = random.nextInt(4) == 0;
    if (random.nextInt(4) == 0) tryMany();
    while (goesOn()) {
      int pick = random.nextInt(100);
      if (m.input == null && !m.lines.isEmpty() && random.nextInt(4) == 0 && log.size() + 60 < CALLS) read(1, spoiled);
      else if (pick < 2 && log.size() + 60 < CALLS) read(random.nextInt(8) == 0 ? 0 : 1 + random.nextInt(2), spoiled);
      else if (pick < 45) act(talkative);
      else ask();
    }
    for (int what = 0; what < 12; what++) due("count " + what, x.count(what), m.count(what));
    if (log.size() > 512) throw new IllegalStateException("a run of more than 512 calls");
  }

  private void act(boolean talkative) {
    int singles = m.input == null ? 0 : m.changes(m.input).size();
    switch (random.nextInt(14)) {
      case 0: case 1: case 2: case 3: case 4: {
        int k = some(singles);
        due("tries " + k, x.tries(k), m.tries(k));
        break;
      }
      case 5: case 6: {
        if (talkative && random.nextInt(3) > 0) break;
        int k = some(singles);
        due("change " + k, x.change(k), m.change(k));
        break;
      }
      case 7: reduce(); break;
      case 8: {
        int want = due("more", x.more(), m.more());
        seen(want >= 0 ? "more" : want == -1 ? "no more" : "more can't be");
        break;
      }
      case 9: {
        if (talkative) break;
        int n = random.nextInt(4) == 0 ? some(12) : 1 + 2 * random.nextInt(5);
        due("votes " + n, x.votes(n), m.votes(n));
        break;
      }
      case 10: {
        if (talkative) break;
        int s = random.nextBoolean() ? some(10) : random.nextInt();
        due("seed " + s, x.seed(s), m.seed(s));
        break;
      }
      case 11: case 12: {
        if (talkative && random.nextInt(3) > 0) break;
        // Whether undo() forgets TRIED when there is none to be undone is not said.
        if (m.count(10) == 0 && m.count(5) > 0) break;
        int want = due("undo", x.undo(), m.undo());
        if (want >= 0) seen(m.input == null ? "undone to none" : "undone");
        break;
      }
      default: due("verdict", x.verdict(), m.verdict());
    }
    if (m.count(10) == 10) seen("ten acts");
  }

  private void reduce() {
    int bug = random.nextInt(4) == 0 ? some(m.bugs.size()) : due("verdict", x.verdict(), m.verdict());
    int how = random.nextInt(8) == 0 ? some(4) : random.nextInt(4);
    int want = due("reduce " + bug + " " + how, x.reduce(bug, how), m.reduce(bug, how));
    if (want > 0) seen("reduced " + how);
    if (want == 0) seen("nothing reduced " + how);
    for (int i = 0; i < 5 && m.count(5) > 0 && want >= 0; i++) {
      int k = random.nextInt(m.count(5));
      seen("trace " + m.trace(k, 2));
      for (int what = 0; what < 4; what++) due("trace " + k + " " + what, x.trace(k, what), m.trace(k, what));
    }
    for (int what = 5; what < 12; what++) due("count " + what, x.count(what), m.count(what));
  }

  private void ask() {
    int nodes = m.count(2);
    int lines = m.count(0);
    int a = some(lines);
    int b = some(lines);
    int k;
    int what;
    switch (random.nextInt(20)) {
      case 0: what = some(13); due("count " + what, x.count(what), m.count(what)); break;
      case 1: {
        int kind = some(3);
        k = some(8);
        what = some(6);
        due("letter " + kind + " " + k + " " + what, x.letter(kind, k, what), m.letter(kind, k, what));
        break;
      }
      case 2: what = random.nextBoolean() ? some(5) : 9 + random.nextInt(6);
        due("line " + a + " " + what, x.line(a, what), m.line(a, what)); break;
      case 3: a = some(m.count(1)); k = random.nextInt(3) == 0 ? -1 : some(random.nextInt(4) == 0 ? 1400 : 6);
        due("least " + a + " " + k, x.least(a, k), m.least(a, k)); break;
      case 4: case 5: k = some(nodes); what = some(8);
        due("node " + k + " " + what, x.node(k, what), m.node(k, what)); break;
      case 6: due("holding", x.holding(), m.holding()); break;
      case 7: case 8: what = some(6);
        due("counts " + what + " " + a + " " + b, x.counts(what, a, b), m.counts(what, a, b)); break;
      case 9: k = random.nextBoolean() ? some(20) : random.nextInt();
        due("run " + k, x.run(k), m.run(k)); break;
      case 10: case 11: k = some(m.input == null ? 0 : m.changes(m.input).size()); what = some(6);
        due("single " + k + " " + what, x.single(k, what), m.single(k, what)); break;
      case 12: {
        int bug = some(m.bugs.size());
        int other = some(m.bugs.size());
        int want = due("apart " + bug + " " + other, x.apart(bug, other), m.apart(bug, other));
        seen(want >= 0 ? "apart" : want == -1 ? "not apart" : "apart can't be");
        break;
      }
      case 13: a = some(8); k = some(6); due("row " + a + " " + k, x.row(a, k), m.row(a, k)); break;
      case 14: part(); break;
      case 15: k = some(m.bugs.size()); due("tried " + k, x.tried(k), m.tried(k)); break;
      case 16: k = some(m.count(5)); what = some(5);
        due("trace " + k + " " + what, x.trace(k, what), m.trace(k, what)); break;
      case 17: k = some(102); what = some(11); due("sure " + k + " " + what, x.sure(k, what), m.sure(k, what)); break;
      case 18: k = some(102); what = some(1000001);
        due("enough " + k + " " + what, x.enough(k, what), m.enough(k, what)); break;
      default: often();
    }
  }

  private void part() {
    int many = some(83);
    int n = some(Math.min(90, Math.max(1, many)) + 1);
    int i = some(Math.min(90, Math.max(1, n)) + 1);
    int what = some(3);
    String call = "part " + many + " " + n + " " + i + " " + what;
    due(call, x.part(many, n, i, what), m.part(many, n, i, what));
  }

  private void often() {
    int bug = some(m.bugs.size());
    int seed = random.nextInt(4) == 0 ? random.nextInt() : some(50);
    int n = random.nextInt(4) == 0 ? some(1002) : some(30);
    due("often " + bug + " " + seed + " " + n, x.often(bug, seed, n), m.often(bug, seed, n));
  }
}
