/** Counts and prints answers that are not as due, each under the test that is going on. */
final class Due {
  private static String test = "";
  private static int wrong = 0;

  private Due() {}

  static void start(String name) {
    test = name;
  }

  static int wrong() {
    return wrong;
  }

  static void fail(String what) {
    wrong++;
    System.out.println(test + ": " + what);
  }

  static void due(String call, long got, long want) {
    if (got != want) fail(call + " answered " + got + ", due is " + want);
  }

  static void due(String call, boolean got, boolean want) {
    if (got != want) fail(call + " answered " + got + ", due is " + want);
  }

  static void due(String what, String got, String want) {
    if (!got.equals(want)) fail(what + " is " + got + ", due is " + want);
  }

  static void dueTrace(Subject x, int k, int... want) {
    for (int what = 0; what < 4; what++) due("trace(" + k + ", " + what + ")", x.trace(k, what), want[what]);
  }

  /** All that was TRIED: of each how many NODES, its VERDICT, for what it was, where. */
  static void dueTraces(Subject x, int[]... want) {
    due("count(5)", x.count(5), want.length);
    for (int k = 0; k < want.length; k++) dueTrace(x, k, want[k]);
  }

  private static void dueFault(Subject x, String text, int got, int fault, int place) {
    due("reading " + text, got, -1);
    due("fault(0) of " + text, x.fault(0), fault);
    due("fault(1) of " + text, x.fault(1), place);
  }

  static void badGrammar(String text, int fault, int place) {
    Subject x = new Subject();
    dueFault(x, text, x.grammar(text), fault, place);
  }

  static void badInput(String grammar, String text, int fault, int place) {
    Subject x = Subject.of(grammar, "", "");
    dueFault(x, text, x.input(text), fault, place);
  }

  static void badBugs(String grammar, String text, int fault, int place) {
    Subject x = Subject.of(grammar, "", "");
    dueFault(x, text, x.bugs(text), fault, place);
  }

  static void goodGrammar(String text, int lines) {
    Subject x = new Subject();
    dueGood(x, text, x.grammar(text), lines);
  }

  static void goodInput(String grammar, String text, int nodes) {
    Subject x = Subject.of(grammar, "", "");
    dueGood(x, text, x.input(text), nodes);
  }

  static void goodBugs(String grammar, String text, int many) {
    Subject x = Subject.of(grammar, "", "");
    dueGood(x, text, x.bugs(text), many);
  }

  private static void dueGood(Subject x, String text, int got, int want) {
    due("reading " + text, got, want);
    due("fault(0) of " + text, x.fault(0), 0);
    due("fault(1) of " + text, x.fault(1), -1);
  }
}
