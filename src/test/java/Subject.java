import java.nio.ByteBuffer;
import java.nio.charset.StandardCharsets;
import java.util.Arrays;

/**
 * A LeastFailing that is told its texts as texts, and whose calls are counted: the document promises
 * nothing of those behind the 512th, so no test may lean on them.
 */
final class Subject {
  static final int CALLS = 512;

  private final LeastFailing x = new LeastFailing();
  private int calls = 0;

  /** One with a GRAMMAR, an INPUT (none, if its text is empty), BUGS. */
  static Subject of(String grammar, String input, String bugs) {
    Subject s = new Subject();
    if (s.grammar(grammar) < 0) throw new IllegalStateException(grammar);
    if (!input.isEmpty() && s.input(input) < 0) throw new IllegalStateException(input);
    if (s.bugs(bugs) < 0) throw new IllegalStateException(bugs);
    return s;
  }

  private LeastFailing next() {
    calls++;
    if (calls > CALLS) throw new IllegalStateException("a test of more than 512 calls");
    return x;
  }

  int calls() {
    return calls;
  }

  /** The text is all that is on the tape then. */
  void give(String text) {
    byte[] b = text.getBytes(StandardCharsets.ISO_8859_1);
    end(0);
    ByteBuffer buffer = ByteBuffer.wrap(Arrays.copyOf(b, (b.length + 19) / 20 * 20));
    while (buffer.remaining() >= 20) {
      feed(buffer.getInt(), buffer.getInt(), buffer.getInt(), buffer.getInt(), buffer.getInt());
    }
    if (!end(b.length)) throw new IllegalStateException("a text that the tape can't hold: " + text);
  }

  int grammar(String text) {
    give(text);
    return grammar();
  }

  int input(String text) {
    give(text);
    return input();
  }

  int bugs(String text) {
    give(text);
    return bugs();
  }

  /** The INPUT as a text again, by what node() tells; empty without one. */
  String told() {
    return count(2) == 0 ? "" : told(0);
  }

  private String told(int node) {
    int name = node(node, 0);
    String letters = name(0, name);
    if (line(name, 0) == 0) return letters;
    StringBuilder b = new StringBuilder("(").append(letters);
    int next = node + 1;
    int parts = node(node, 4);
    for (int i = 0; i < parts; i++) {
      b.append(' ').append(told(next));
      next += node(next, 3);
    }
    return b.append(')').toString();
  }

  /** A NAME by its letters. */
  String name(int kind, int k) {
    StringBuilder b = new StringBuilder();
    for (int i = 0; i < 6; i++) {
      int letter = letter(kind, k, i);
      if (letter <= 0) break;
      b.append((char) ('a' - 1 + letter));
    }
    return b.toString();
  }

  /** All that can be asked without a change, but for the tape: what a refused call must leave. */
  String state() {
    StringBuilder b = new StringBuilder();
    for (int what = 0; what < 12; what++) b.append(count(what)).append(' ');
    b.append("fault ").append(fault(0)).append(' ').append(fault(1)).append(" names ");
    for (int i = 0; i < count(0); i++) b.append(name(0, i)).append(' ');
    for (int i = 0; i < count(3); i++) b.append(name(2, i)).append(' ');
    b.append(told()).append(" holding ").append(holding()).append(" tried ");
    for (int k = 0; k < count(5); k++) b.append(trace(k, 0)).append(':').append(trace(k, 1)).append(' ');
    return b.toString();
  }

  int feed(int a, int b, int c, int d, int e) { return next().feed(a, b, c, d, e); }
  boolean end(int n) { return next().end(n); }
  int grammar() { return next().grammar(); }
  int input() { return next().input(); }
  int bugs() { return next().bugs(); }
  int fault(int what) { return next().fault(what); }
  int votes(int n) { return next().votes(n); }
  int seed(int seed) { return next().seed(seed); }
  int count(int what) { return next().count(what); }
  int letter(int kind, int k, int i) { return next().letter(kind, k, i); }
  int line(int line, int what) { return next().line(line, what); }
  int least(int sort, int k) { return next().least(sort, k); }
  int node(int node, int what) { return next().node(node, what); }
  int holding() { return next().holding(); }
  int counts(int what, int a, int b) { return next().counts(what, a, b); }
  int verdict() { return next().verdict(); }
  int run(int x) { return next().run(x); }
  int single(int k, int what) { return next().single(k, what); }
  int tries(int k) { return next().tries(k); }
  int change(int k) { return next().change(k); }
  int more() { return next().more(); }
  int apart(int bug, int other) { return next().apart(bug, other); }
  int reduce(int bug, int how) { return next().reduce(bug, how); }
  int row(int level, int k) { return next().row(level, k); }
  int part(int many, int n, int i, int what) { return next().part(many, n, i, what); }
  int tried(int verdict) { return next().tried(verdict); }
  int trace(int k, int what) { return next().trace(k, what); }
  int sure(int odds, int n) { return next().sure(odds, n); }
  int enough(int odds, int sure) { return next().enough(odds, sure); }
  int often(int bug, int x, int n) { return next().often(bug, x, n); }
  int undo() { return next().undo(); }
}
