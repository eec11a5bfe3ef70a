import java.lang.reflect.InvocationTargetException;
import java.lang.reflect.Method;
import java.util.ArrayList;
import java.util.Arrays;
import java.util.Comparator;
import java.util.List;

/**
 * Every call with every row of numbers out of those at and beside the document's bounds, in objects
 * that have nothing, a GRAMMAR, an INPUT, BUGS, all of these: none throws, each answers as the model.
 */
public final class ExtremesTest {
  private static final int MIN = Integer.MIN_VALUE;
  private static final int MAX = Integer.MAX_VALUE;
  private static final int[] MANY = {MIN, MIN + 1, -1001, -10, -4, -3, -2, -1, 0, 1, 2, 3, 4, 5, 6, 7, 8, 9, 10, 11, 12, 13, 14,
      23, 24, 25, 79, 80, 81, 99, 100, 101, 599, 600, 601, 999, 1000, 1001, 1000000, 1000001, MAX - 1, MAX};
  private static final int[] SOME = {MIN, MIN + 1, -3, -2, -1, 0, 1, 2, 3, 4, 5, 6, 7, 24, 79, 80, 81, 1000, 1001, MAX};
  private static final int[] FEW = {MIN, -2, -1, 0, 1, 2, 5, 79, 80, 81, MAX};
  private static final String[] STATES = {"new", "a GRAMMAR", "an INPUT", "BUGS", "an INPUT and BUGS", "reduced"};
  private static final int CALLS = 480;

  private static int wrong = 0;
  private static long done = 0;

  private final int state;
  private LeastFailing x;
  private Model m;
  private int calls = CALLS;

  private ExtremesTest(int state) {
    this.state = state;
  }

  public static void main(String[] args) throws ReflectiveOperationException {
    List<Method> methods = new ArrayList<>();
    for (Method f : LeastFailing.class.getDeclaredMethods()) {
      if (java.lang.reflect.Modifier.isPublic(f.getModifiers())) methods.add(f);
    }
    methods.sort(Comparator.comparing(Method::getName));
    for (int state = 0; state < STATES.length; state++) {
      for (Method f : methods) {
        int[] row = new int[f.getParameterCount()];
        new ExtremesTest(state).rows(f, Model.class.getDeclaredMethod(f.getName(), f.getParameterTypes()), row, 0);
      }
    }
    System.out.println(done + " calls at and beside the bounds, " + wrong + " not as due");
    if (wrong != 0) System.exit(1);
  }

  private static int[] numbers(int parameters) {
    return parameters < 3 ? MANY : parameters == 3 ? SOME : parameters == 4 ? FEW : new int[] {MIN, -1, 0x20202020};
  }

  private void rows(Method f, Method model, int[] row, int at) throws ReflectiveOperationException {
    if (at == row.length) {
      compare(f, model, row);
      return;
    }
    for (int n : numbers(row.length)) {
      row[at] = n;
      rows(f, model, row, at + 1);
    }
  }

  private void compare(Method f, Method model, int[] row) throws ReflectiveOperationException {
    if (calls >= CALLS) renew();
    calls++;
    done++;
    Object[] arguments = Arrays.stream(row).boxed().toArray();
    Object want = model.invoke(m, arguments);
    Object got;
    try {
      got = f.invoke(x, arguments);
    } catch (InvocationTargetException e) {
      got = e.getCause();
    }
    if (got.equals(want)) return;
    wrong++;
    System.out.println("with " + STATES[state] + ": " + f.getName() + Arrays.toString(row) + " answered " + got + ", due is " + want);
    calls = CALLS;
  }

  private void renew() {
    x = new LeastFailing();
    m = new Model();
    calls = 0;
    if (state >= 1) {
      give("form prog p:s*;leaf nop s;form set s:v e;form if s:e s s*;leaf a v;leaf b v;leaf one e;form add e:e e;");
      x.grammar();
      m.grammar();
    }
    if (state == 2 || state >= 4) {
      give("(prog nop(set a(add one(add one one)))(if one nop(set b one)nop)(set b one))");
      x.input();
      m.input();
    }
    if (state >= 3) {
      give("bug p odds 60 when has set>1;bug q odds 100 when under if set>0 or next nop set=1;bug r odds 100 when deep>1;");
      x.bugs();
      m.bugs();
    }
    if (state >= 5) {
      for (int i = 0; i < 3; i++) {
        int bug = m.verdict();
        x.verdict();
        m.reduce(bug, i);
        x.reduce(bug, i);
        m.more();
        x.more();
        calls += 3;
      }
    }
  }

  private void give(String text) {
    byte[] b = Arrays.copyOf(text.getBytes(java.nio.charset.StandardCharsets.ISO_8859_1), (text.length() + 19) / 20 * 20);
    java.nio.ByteBuffer buffer = java.nio.ByteBuffer.wrap(b);
    while (buffer.remaining() >= 20) {
      int[] v = {buffer.getInt(), buffer.getInt(), buffer.getInt(), buffer.getInt(), buffer.getInt()};
      x.feed(v[0], v[1], v[2], v[3], v[4]);
      m.feed(v[0], v[1], v[2], v[3], v[4]);
      calls++;
    }
    x.end(text.length());
    m.end(text.length());
    calls += 2;
  }
}
