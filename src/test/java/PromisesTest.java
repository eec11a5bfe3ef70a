import java.util.Arrays;

/** Each promise by its number; the answers are worked out by hand from the document. */
public final class PromisesTest {
  private static final String EXPRESSIONS = "leaf x e;leaf y e;form add e:e e;form seq e:e*;";
  /** LEAST of a is (a (b c)), of t (top (a (b c))): deeper than (wide c c c), but of fewer NODES. */
  private static final String CHAINS = "form top t:a a*;form a a:b;form b b:c;leaf c c;form wide a:c c c;leaf d c;";
  private static final int MOST = Integer.MAX_VALUE;
  private static final int LEAST = Integer.MIN_VALUE;

  private static int promise = 0;
  private static int wrong = 0;

  public static void main(String[] args) {
    Runnable[] promises = {PromisesTest::newObject, PromisesTest::feed, PromisesTest::end, PromisesTest::grammar,
        PromisesTest::input, PromisesTest::bugs, PromisesTest::fault, PromisesTest::votes, PromisesTest::seed,
        PromisesTest::count, PromisesTest::letter, PromisesTest::line, PromisesTest::least, PromisesTest::node,
        PromisesTest::holding, PromisesTest::counts, PromisesTest::verdict, PromisesTest::run, PromisesTest::single,
        PromisesTest::tries, PromisesTest::change, PromisesTest::more, PromisesTest::apart, PromisesTest::reduce,
        PromisesTest::row, PromisesTest::part, PromisesTest::tried, PromisesTest::trace, PromisesTest::sure,
        PromisesTest::enough, PromisesTest::often, PromisesTest::undo};
    for (int i = 0; i < promises.length; i++) {
      promise = i + 1;
      promises[i].run();
    }
    System.out.println(wrong == 0 ? "all " + promises.length + " promises hold" : wrong + " answers are not as due");
    if (wrong != 0) System.exit(1);
  }

  private static void due(String call, long got, long want) {
    if (got == want) return;
    wrong++;
    System.out.println("promise " + promise + ": " + call + " answered " + got + ", due is " + want);
  }

  private static void give(Subject x, String text) {
    x.give(text);
  }

  private static int giveGrammar(Subject x, String text) {
    return x.grammar(text);
  }

  private static int giveInput(Subject x, String text) {
    return x.input(text);
  }

  private static int giveBugs(Subject x, String text) {
    return x.bugs(text);
  }

  private static Subject made(String grammar, String input, String bugs) {
    return Subject.of(grammar, input, bugs);
  }

  private static void dueFault(Subject x, String text, int got, int fault, int place) {
    due("reading " + text, got, -1);
    due("fault(0) of " + text, x.fault(0), fault);
    due("fault(1) of " + text, x.fault(1), place);
  }

  private static void badGrammar(String text, int fault, int place) {
    Subject x = new Subject();
    dueFault(x, text, giveGrammar(x, text), fault, place);
  }

  private static void badInput(String text, int fault, int place) {
    Subject x = made(EXPRESSIONS, "", "");
    dueFault(x, text, giveInput(x, text), fault, place);
  }

  private static void badBugs(String text, int fault, int place) {
    Subject x = made(EXPRESSIONS, "", "");
    dueFault(x, text, giveBugs(x, text), fault, place);
  }

  private static void dueInput(Subject x, String want) {
    if (x.told().equals(want)) return;
    wrong++;
    System.out.println("promise " + promise + ": the INPUT is " + x.told() + ", due is " + want);
  }

  private static void dueTrace(Subject x, int k, int nodes, int verdict, int reason, int where) {
    int[] want = {nodes, verdict, reason, where};
    for (int what = 0; what < 4; what++) due("trace(" + k + ", " + what + ")", x.trace(k, what), want[what]);
  }

  private static void newObject() {
    Subject x = new Subject();
    int[] counts = {0, 0, 0, 0, 1, 0, 0, 0, 0, 1, 0, -1};
    for (int i = 0; i < counts.length; i++) due("count(" + i + ")", x.count(i), counts[i]);
    due("input()", x.input(), -3);
    due("bugs()", x.bugs(), -3);
    due("verdict()", x.verdict(), -1);
    due("undo()", x.undo(), -3);
    due("NONE", LeastFailing.NONE, -1);
  }

  private static void feed() {
    Subject x = new Subject();
    for (int i = 1; i <= 50; i++) due("feed", x.feed(0, 0, 0, 0, 0), 20 * i);
    due("feed beyond 1000", x.feed(0, 0, 0, 0, 0), -1);
    due("end(1001)", x.end(1001) ? 1 : 0, 0);
    due("end(981)", x.end(981) ? 1 : 0, 1);
    due("feed beyond 1000 from 981", x.feed(0, 0, 0, 0, 0), -1);
    due("end(982)", x.end(982) ? 1 : 0, 0);
    due("end(980)", x.end(980) ? 1 : 0, 1);
    due("feed to 1000", x.feed(0, 0, 0, 0, 0), 1000);
    x = new Subject();
    // "leaf", " x e", ";   ", blanks: the highest byte of each number first.
    x.feed(0x6c656166, 0x20782065, 0x3b202020, 0x20202020, 0x20202020);
    due("grammar()", x.grammar(), 1);
    x.feed(0x6c656166, 0x20782065, 0x3bffff00, LEAST, MOST);
    due("grammar()", x.grammar(), -1);
    due("place of the byte 255", x.fault(1), 9);
    due("feed on a tape that went", x.feed(1, 2, 3, 4, 5), 20);
  }

  private static void end() {
    Subject x = new Subject();
    due("end(0)", x.end(0) ? 1 : 0, 1);
    due("end(1)", x.end(1) ? 1 : 0, 0);
    due("end(-1)", x.end(-1) ? 1 : 0, 0);
    x.feed(0x6c656166, 0x20782065, 0x3b6c6561, 0x66207820, 0x653b2020);
    due("end(21)", x.end(21) ? 1 : 0, 0);
    due("end(LEAST)", x.end(LEAST) ? 1 : 0, 0);
    due("end(MOST)", x.end(MOST) ? 1 : 0, 0);
    due("end(20)", x.end(20) ? 1 : 0, 1);
    due("end(9)", x.end(9) ? 1 : 0, 1);
    due("end(10) behind it", x.end(10) ? 1 : 0, 0);
    due("grammar() of the first 9 bytes", x.grammar(), 1);
    give(x, "leaf x e;");
    due("feed behind 9", x.feed(0x20202020, 0x20202020, 0x20202020, 0x20202020, 0x20202020), 29);
    due("grammar() with blanks", x.grammar(), 1);
    give(x, "xy");
    x.end(1);
    due("input() of the first byte", x.input(), 1);
    give(x, "bug a odds 12345");
    x.end(12);
    due("bugs() of the first 12 bytes", x.bugs(), -1);
    due("place of what is missing", x.fault(1), 12);
    give(x, " ".repeat(999) + "x");
    due("input() of 1000 bytes", x.input(), 1);
    give(x, " ".repeat(1000));
    due("input() of blanks", x.input(), -1);
    due("place of what is missing", x.fault(1), 1000);
    give(x, "bug a odds" + " ".repeat(989) + "1");
    due("bugs() of 1000 bytes", x.bugs(), -1);
    due("place of what is missing", x.fault(1), 1000);
  }

  private static String lines(int many) {
    StringBuilder b = new StringBuilder();
    for (int i = 0; i < many; i++) b.append("leaf ").append((char) ('a' + i)).append(" e;");
    return b.toString();
  }

  private static void grammar() {
    Subject x = new Subject();
    due("grammar()", giveGrammar(x, EXPRESSIONS), 4);
    due("blanks where one likes", giveGrammar(x, "\n leaf\nx  e ; form f e : e\n* ;\n"), 2);
    due("SORTS named as others", giveGrammar(x, "leaf x x;form y x:y y*;form z y:;"), 3);
    due("six letters", giveGrammar(x, "leaf abcdef ghijkl;"), 1);
    due("four behind a :", giveGrammar(x, "leaf x e;form f e:e e e e*;form g e:e e e e;"), 3);
    due("24 LINES", giveGrammar(x, lines(24)), 24);
    due("six SORTS", giveGrammar(x, "form f a:b c d e g*;leaf b b;leaf c c;leaf d d;leaf e e;".replace(" g*", "*")), 5);
    due("a * alone", giveGrammar(x, "form f a:a*;"), 1);
    grammarFaults();

    x = made(EXPRESSIONS, "(add x y)", "bug b odds 100 when size>0;");
    x.votes(3);
    x.seed(5);
    x.verdict();
    due("grammar() with a FAULT", giveGrammar(x, "leaf q q"), -1);
    int[] stay = {4, 1, 3, 1, 3, 1, 0, 3, 0, 5, 1, 1};
    for (int i = 0; i < stay.length; i++) due("count(" + i + ") stays", x.count(i), stay[i]);
    due("grammar() without one", giveGrammar(x, "leaf q q;leaf r s;"), 2);
    int[] then = {2, 2, 0, 0, 3, 0, 0, 3, 0, 5, 0, -1};
    for (int i = 0; i < then.length; i++) due("count(" + i + ") then", x.count(i), then[i]);
    due("undo()", x.undo(), -3);
    due("the tape went", x.grammar(), -1);
  }

  private static void grammarFaults() {
    badGrammar("", 1, 0);
    badGrammar("  \n", 1, 3);
    badGrammar("lea x e;", 1, 0);
    badGrammar("leafx e;", 1, 0);
    badGrammar("Leaf x e;", 1, 0);
    badGrammar("leaf\tx e;", 1, 4);
    badGrammar("leaf5 e;", 1, 4);
    badGrammar("leaf x5 e;", 1, 6);
    badGrammar("leaf x e  ", 1, 10);
    badGrammar("leaf x e;;", 1, 9);
    badGrammar("leaf x e;form", 1, 13);
    badGrammar("leaf x e:;", 1, 8);
    badGrammar("form f e;", 1, 8);
    badGrammar("leaf abcdefg e;", 1, 5);
    badGrammar("leaf x abcdefg;", 1, 7);
    badGrammar("leaf x e;form f e:*;", 1, 18);
    badGrammar("leaf x e;form f e:e**;", 1, 20);
    badGrammar("leaf x e;form f e:e*e;", 1, 20);
    for (String own : "form leaf bug odds when or and not size deep has under next".split(" ")) {
      badGrammar("leaf " + own + " e;", 1, 5);
      badGrammar("leaf x " + own + ";", 1, 7);
      badGrammar("leaf x e;form f e:e " + own + ";", 1, 20);
    }
    badGrammar("leaf x e;leaf x s;", 3, 14);
    badGrammar("leaf x e;form x s s;", 3, 14);
    badGrammar("leaf x e;form f e:e e e e e;", 4, 26);
    badGrammar("leaf x e;form f e:e e e e bug;", 1, 26);
    badGrammar("leaf a a;leaf b b;leaf c c;leaf d d;leaf e e;leaf f f;leaf g g;", 4, 61);
    badGrammar("leaf a a;leaf b b;leaf c c;leaf d d;leaf e e;form f f:a g;", 4, 56);
    badGrammar(lines(24) + "leaf y e;", 4, 216);
    badGrammar(lines(24) + " form", 4, 217);
    badGrammar(lines(24) + "y", 1, 216);
    badGrammar("form f a:a;", 5, 11);
    badGrammar("form f a:a; \n", 5, 13);
    badGrammar("leaf x e;form f e:s;", 5, 20);
    badGrammar("leaf x e;form f e:s*;", 5, 21);
    badGrammar("form f a:b;form g b:a;leaf c c;", 5, 31);
    badGrammar("form f a:a;leaf", 1, 15);
  }

  private static void input() {
    Subject x = made(EXPRESSIONS, "", "bug b odds 100 when size>0;");
    due("input()", giveInput(x, "(seq x (add x y) y (seq y))"), 8);
    dueInput(x, "(seq x (add x y) y (seq y))");
    due("a leaf", giveInput(x, " x\n"), 1);
    due("without blanks", giveInput(x, "(seq(seq)(seq x)y)"), 5);
    dueInput(x, "(seq (seq) (seq x) y)");
    due("80 NODES", giveInput(x, "(seq" + " x".repeat(79) + ")"), 80);
    due("12 open", giveInput(x, "(seq".repeat(12) + " x" + ")".repeat(12)), 13);
    due("12 open, again and again", giveInput(x, "(seq" + "(seq)".repeat(40) + ")"), 41);
    due("acts", x.count(10), 6);
    inputFaults();

    x.verdict();
    due("TRIED", x.count(5), 1);
    due("with a FAULT", giveInput(x, "(add x)"), -1);
    due("TRIED stay", x.count(5), 1);
    due("NODES stay", x.count(2), 41);
    due("acts stay", x.count(10), 6);
    due("done", giveInput(x, "y"), 1);
    due("TRIED are forgotten", x.count(5), 0);
    due("undo()", x.undo(), 6);
    due("NODES", x.count(2), 41);

    x = new Subject();
    giveGrammar(x, "leaf");
    due("without a GRAMMAR", giveInput(x, "x"), -3);
    due("fault(0) stays", x.fault(0), 1);
    due("fault(1) stays", x.fault(1), 4);
    due("the tape went", x.end(1) ? 1 : 0, 0);
    giveGrammar(x, CHAINS);
    due("two PARTS for a *", giveInput(x, "(top(wide c d c)(a(b d))(a(b c)))"), 11);
    due("undo() to none", x.undo(), 0);
    due("NODES", x.count(2), 0);
  }

  private static void inputFaults() {
    badInput("", 1, 0);
    badInput("x y", 1, 2);
    badInput("x)", 1, 1);
    badInput(")", 1, 0);
    badInput("(seq", 1, 4);
    badInput("(seq x  ", 1, 8);
    badInput("()", 1, 1);
    badInput("((seq))", 1, 1);
    badInput("(seq;)", 1, 4);
    badInput("(seq x1)", 1, 6);
    badInput("(bug)", 1, 1);
    badInput("(seq abcdefg)", 1, 5);
    badInput("7", 1, 0);
    badInput("z", 3, 0);
    badInput("(seq z", 3, 5);
    badInput("add", 5, 0);
    badInput("(x)", 5, 1);
    badInput("(add x)", 5, 6);
    badInput("(add)", 5, 4);
    badInput("(add x y x)", 5, 9);
    badInput("(add x y (seq))", 5, 10);
    badInput("(seq".repeat(13), 4, 48);
    badInput("(seq" + " x".repeat(80) + ")", 4, 163);
    badInput("(seq" + " x".repeat(79) + " add)", 4, 163);
    badInput("(seq" + " x".repeat(79) + " z)", 3, 163);
    Subject x = made(CHAINS, "", "");
    String another = "(top (b c))";
    dueFault(x, another, giveInput(x, another), 5, 6);
    String notStart = "(a (b c))";
    dueFault(x, notStart, giveInput(x, notStart), 5, 1);
    String tooFew = "(top)";
    dueFault(x, tooFew, giveInput(x, tooFew), 5, 4);
  }

  private static void bugs() {
    Subject x = made(EXPRESSIONS, "(add x y)", "");
    due("bugs()", giveBugs(x, "bug a odds 100 when size>0;bug b odds 001 when not[deep<9]or has x=1 and under add y>0;"), 2);
    due("named as leaves", giveBugs(x, "bug x odds 5 when next x y = 1 ;"), 1);
    x.verdict();
    due("TRIED", x.count(5), 1);
    due("with a FAULT", giveBugs(x, "bug"), -1);
    due("BUGS stay", x.count(3), 1);
    due("TRIED stay", x.count(5), 1);
    due("none", giveBugs(x, " \n"), 0);
    due("TRIED are forgotten", x.count(5), 0);
    due("BUGS", x.count(3), 0);
    due("no act", x.count(10), 1);
    StringBuilder six = new StringBuilder();
    for (char c = 'a'; c < 'g'; c++) six.append("bug ").append(c).append(" odds 1 when size>0;");
    due("six", giveBugs(x, six.toString()), 6);
    badBugs(six + "bug g odds 1 when size>0;", 4, 150);
    badBugs(six + "g", 1, 150);
    due("six open at once", giveBugs(x, "bug a odds 1 when not not not[[[size>0]]];"), 1);
    due("closed, six more", giveBugs(x, "bug a odds 1 when[[[[[[size>0]]]]]]and[[[[[[size>0]]]]]];"), 1);
    due("nots end with their FACTS",
        giveBugs(x, "bug a odds 1 when not not not size>0 and not not not not not not size>0;"), 1);
    bugsFaults();
    x = new Subject();
    due("without a GRAMMAR", giveBugs(x, ""), -3);
    give(x, "bug");
    due("without a GRAMMAR", x.bugs(), -3);
    due("fault(0) stays", x.fault(0), 0);
    due("the tape went", x.end(1) ? 1 : 0, 0);
  }

  private static void bugsFaults() {
    badBugs("bug", 1, 3);
    badBugs("bug or odds 1 when size>0;", 1, 4);
    badBugs("bug abcdefg odds 1 when size>0;", 1, 4);
    badBugs("bug a odd 1 when size>0;", 1, 6);
    badBugs("bug a odds x when size>0;", 1, 11);
    badBugs("bug a odds1 when size>0;", 1, 10);
    badBugs("bug a odds 1000 when size>0;", 1, 11);
    badBugs("bug a odds 0 when size>0;", 2, 11);
    badBugs("bug a odds 101 when size>0;", 2, 11);
    badBugs("bug a odds 1when size>0;", 1, 12);
    badBugs("bug a odds 0when size>0;", 2, 11);
    badBugs("bug a odds 1 when;", 1, 17);
    badBugs("bug a odds 1 when size>0", 1, 24);
    badBugs("bug a odds 1 when size>0 ;x", 1, 26);
    badBugs("bug a odds 1 when size>0or size>0;", 1, 24);
    badBugs("bug a odds 1 when size>1234;", 1, 23);
    badBugs("bug a odds 1 when size>x;", 1, 23);
    badBugs("bug a odds 1 when size!0;", 1, 22);
    badBugs("bug a odds 1 when size x>0;", 1, 23);
    badBugs("bug a odds 1 when has>0;", 1, 21);
    badBugs("bug a odds 1 when has size>0;", 1, 22);
    badBugs("bug a odds 1 when has q>0;", 3, 22);
    badBugs("bug a odds 1 when has q5;", 3, 22);
    badBugs("bug a odds 1 when under x>0;", 1, 25);
    badBugs("bug a odds 1 when under x q>0;", 3, 26);
    badBugs("bug a odds 1 when next q x>0;", 3, 23);
    badBugs("bug a odds 1 when [size>0;", 1, 25);
    badBugs("bug a odds 1 when size>0];", 1, 24);
    badBugs("bug a odds 1 when size>0 and;", 1, 28);
    badBugs("bug a odds 1 when size>0 or or size>0;", 1, 28);
    badBugs("bug a odds 1 when size>0 not size>0;", 1, 25);
    badBugs("bug a odds 1 when size>0;bug a odds 1 when size>0;", 3, 29);
    badBugs("bug a odds 1 when not not not not not not not size>0;", 4, 42);
    badBugs("bug a odds 1 when [[[[[[[size>0;", 4, 24);
    badBugs("bug a odds 1 when [not[not[not size>0 and [[", 4, 43);
  }

  private static void fault() {
    Subject x = new Subject();
    due("fault(0) ahead of any", x.fault(0), 0);
    due("fault(1) ahead of any", x.fault(1), -1);
    giveGrammar(x, "leaf x e");
    due("fault(0)", x.fault(0), 1);
    due("fault(1)", x.fault(1), 8);
    due("fault(2)", x.fault(2), -1);
    due("fault(-1)", x.fault(-1), -1);
    giveGrammar(x, EXPRESSIONS);
    due("fault(0) without", x.fault(0), 0);
    due("fault(1) without", x.fault(1), -1);
    giveInput(x, "(add x z)");
    due("fault(0) of input()", x.fault(0), 3);
    due("fault(1) of input()", x.fault(1), 7);
    giveBugs(x, "bug a odds 0");
    due("fault(0) of bugs()", x.fault(0), 2);
    due("fault(1) of bugs()", x.fault(1), 11);
    x.feed(0, 0, 0, 0, 0);
    x.verdict();
    due("fault(0) stays", x.fault(0), 2);
    x.end(0);
    giveInput(x, "x");
    due("fault(0) of the latest", x.fault(0), 0);
  }

  private static void votes() {
    Subject x = made("leaf x e;", "x", "");
    int before = 1;
    for (int n = -1; n <= 11; n++) {
      boolean can = n == 1 || n == 3 || n == 5 || n == 7 || n == 9;
      x.verdict();
      due("votes(" + n + ")", x.votes(n), can ? before : -2);
      due("TRIED behind votes(" + n + ")", x.count(5), can ? 0 : 1);
      if (can) before = n;
      due("count(4)", x.count(4), before);
    }
    due("votes(LEAST)", x.votes(LEAST), -2);
    due("votes(MOST)", x.votes(MOST), -2);
  }

  private static void seed() {
    Subject x = made("leaf x e;", "x", "");
    x.verdict();
    due("seed(-1)", x.seed(-1), -2);
    due("seed(LEAST)", x.seed(LEAST), -2);
    due("count(9)", x.count(9), 1);
    due("TRIED stay", x.count(5), 1);
    due("seed(0)", x.seed(0), 1);
    due("count(9)", x.count(9), 0);
    due("TRIED are forgotten", x.count(5), 0);
    due("seed(MOST)", x.seed(MOST), 1);
    due("count(9)", x.count(9), MOST);
  }

  private static void count() {
    Subject x = made(EXPRESSIONS, "(seq(add x x)y)", "bug a odds 50 when size>0;bug b odds 100 when size>9;");
    x.votes(5);
    x.seed(1);
    x.verdict();
    x.verdict();
    x.tries(0);
    // Draws of seed 1: 18 99 26 80 16, then 14 68 52 41 19.
    int[] want = {4, 1, 5, 2, 5, 2, 1, 10, 0, 0, 1, 2};
    for (int i = 0; i < want.length; i++) if (i != 9) due("count(" + i + ")", x.count(i), want[i]);
    due("count(-1)", x.count(-1), -1);
    due("count(12)", x.count(12), -1);
    due("count(LEAST)", x.count(LEAST), -1);
    x.seed(1);
    x.votes(1);
    x.verdict();
    due("count(9), one DRAW on", x.count(9), 1103527590);
    due("count(5), forgotten before", x.count(5), 1);
    due("count(6) goes on", x.count(6), 1);
    due("count(7) goes on", x.count(7), 11);
    giveGrammar(x, "leaf x e;");
    due("count(7) goes on behind grammar()", x.count(7), 11);
    due("count(11) without an INPUT", x.count(11), -1);
    countOut();
  }

  /** 601 TREES and more: those beyond 600 are OUT. */
  private static void countOut() {
    StringBuilder bugs = new StringBuilder();
    for (int i = 0; i < 6; i++) {
      bugs.append("bug ").append((char) ('a' + i)).append(" odds 100 when size=").append(73 - i).append(';');
    }
    // 12 forms, one in the other, with leaves of many NAMES: many unlike TREES. No SINGLE change
    // fails as the INPUT does, so that all are TRIED.
    StringBuilder input = new StringBuilder();
    for (int i = 0; i < 12; i++) {
      input.append("(seq");
      for (int j = 0; j < 5; j++) input.append(' ').append((char) ('a' + (i * 7 + j * (i % 3 + 1)) % 20));
    }
    input.append(" a").append(")".repeat(12));
    Subject x = made(lines(20) + "form seq e:e*;", input.toString(), bugs.toString());
    due("NODES", x.count(2), 73);
    int asked = 0;
    int bug = 0;
    while (bug < 6) {
      due("more()", x.more(), -1);
      asked += 1 + x.single(-1, 0);
      if (x.count(8) > 0) break;
      due("CUT of the last NODE", x.change(x.single(-1, 0) - 1), 72 - bug);
      bug++;
    }
    due("TRIED", x.count(5), 600);
    due("some are OUT", x.count(8) > 0 ? 1 : 0, 1);
    due("all that were asked", x.count(5) + x.count(6) + x.count(8), asked);
    due("RUNS", x.count(7), 600);
    int out = x.count(8);
    due("VERDICT of what is OUT", x.tries(x.single(-1, 0) - 1), -1);
    due("VERDICT of what is OUT", x.tries(x.single(-1, 0) - 1), -1);
    due("OUT", x.count(8), out + 2);
    due("TRIED stay", x.count(5), 600);
    due("no RUNS", x.count(7), 600);
    due("what was TRIED keeps its VERDICT", x.verdict(), bug);
    x.votes(1);
    due("VERDICT of what is not OUT any more", x.tries(x.single(-1, 0) - 1), bug + 1);
    due("OUT", x.count(8), out + 2);
  }

  private static void letter() {
    Subject x = made("leaf x e;form abcxyz num:e*;", "", "bug zz odds 1 when size>0;");
    int[] second = {1, 2, 3, 24, 25, 26};
    for (int i = 0; i < 6; i++) due("letter(0, 1, " + i + ")", x.letter(0, 1, i), second[i]);
    int[] sort = {14, 21, 13, 0, 0, 0};
    for (int i = 0; i < 6; i++) due("letter(1, 1, " + i + ")", x.letter(1, 1, i), sort[i]);
    due("letter(1, 0, 0)", x.letter(1, 0, 0), 5);
    due("letter(2, 0, 1)", x.letter(2, 0, 1), 26);
    due("letter(2, 0, 2)", x.letter(2, 0, 2), 0);
    int[][] none = {{0, 1, 6}, {0, 1, -1}, {0, 2, 0}, {0, -1, 0}, {1, 2, 0}, {2, 1, 0}, {3, 0, 0}, {-1, 0, 0},
        {0, 0, MOST}, {0, LEAST, 0}};
    for (int[] n : none) due("letter" + Arrays.toString(n), x.letter(n[0], n[1], n[2]), -1);
  }

  private static void line() {
    Subject x = made(CHAINS, "", "");
    int[][] want = {{1, 0, 2, 1, 1, 1}, {1, 1, 1, 0, 2, -1}, {1, 2, 1, 0, 3, -1}, {0, 3, 0, 0, -1, -1},
        {1, 1, 3, 0, 3, 3}, {0, 3, 0, 0, -1, -1}};
    for (int l = 0; l < want.length; l++) {
      for (int w = 0; w < 6; w++) {
        int what = w < 4 ? w : w + 6;
        due("line(" + l + ", " + what + ")", x.line(l, what), want[l][w]);
      }
    }
    due("line(4, 12)", x.line(4, 12), 3);
    due("line(4, 13)", x.line(4, 13), -1);
    for (int what : new int[] {-1, 4, 9, 14, LEAST, MOST}) due("line(0, " + what + ")", x.line(0, what), -1);
    due("line(6, 0)", x.line(6, 0), -1);
    due("line(-1, 0)", x.line(-1, 0), -1);
  }

  private static void least() {
    Subject x = made(CHAINS, "", "");
    int[][] want = {{0, 1, 2, 3}, {1, 2, 3}, {2, 3}, {3}};
    for (int s = 0; s < 4; s++) {
      due("least(" + s + ", NONE)", x.least(s, -1), want[s].length);
      for (int k = 0; k < want[s].length; k++) due("least(" + s + ", " + k + ")", x.least(s, k), want[s][k]);
      due("least(" + s + ") behind it", x.least(s, want[s].length), -1);
    }
    due("least(4, NONE)", x.least(4, -1), -1);
    due("least(-1, NONE)", x.least(-1, -1), -1);
    due("least(0, -2)", x.least(0, -2), -1);
    due("least(0, MOST)", x.least(0, MOST), -1);
    // Of like ones the NAME told first, even if its PARTS are told behind it.
    x = made("form f a:b;form g a:c;leaf c c;leaf b b;leaf bb b;form r c:*;".replace(":*", ":a*"), "", "");
    due("of like ones", x.least(0, 0), 0);
    due("its PART", x.least(0, 1), 3);
    due("a form without PARTS is like a leaf", x.least(2, 0), 2);
    x = made("form r c:a*;leaf c c;leaf a a;", "", "");
    due("none for a *", x.least(0, -1), 1);
    due("its NAME", x.least(0, 0), 0);
    // The largest LEAST: 1 + 4 + 16 + 64 + 256 + 1024 NODES.
    x = made("form f a:b b b b;form g b:c c c c;form h c:d d d d;form i d:e e e e;form j e:k k k k;leaf l k;", "", "");
    due("many NODES", x.least(0, -1), 1365);
    due("the last one", x.least(0, 1364), 5);
    due("the second PART", x.least(0, 342), 1);
    due("behind it", x.least(0, 1365), -1);
  }

  private static void node() {
    Subject x = made(CHAINS, "(top (a (b d)) (wide c d c) (a (b c)))", "");
    int[][] want = {
        {0, 0, 0, 11, 3, -1, -1, 0}, {1, 1, 1, 3, 1, 0, 0, 0}, {2, 2, 2, 2, 1, 1, 0, 0}, {5, 3, 3, 1, 0, 2, 0, 0},
        {4, 1, 1, 4, 3, 0, 1, 1}, {3, 3, 2, 1, 0, 4, 0, 0}, {5, 3, 2, 1, 0, 4, 1, 0}, {3, 3, 2, 1, 0, 4, 2, 0},
        {1, 1, 1, 3, 1, 0, 2, 1}, {2, 2, 2, 2, 1, 8, 0, 0}, {3, 3, 3, 1, 0, 9, 0, 0}};
    for (int n = 0; n < want.length; n++) {
      for (int w = 0; w < 8; w++) due("node(" + n + ", " + w + ")", x.node(n, w), want[n][w]);
    }
    for (int[] n : new int[][] {{11, 0}, {-1, 0}, {0, 8}, {0, -1}, {MOST, 0}, {0, LEAST}}) {
      due("node" + Arrays.toString(n), x.node(n[0], n[1]), -2);
    }
    due("node(0, 0) without an INPUT", new Subject().node(0, 0), -2);
  }

  private static int holds(String test) {
    return made(EXPRESSIONS, "(seq x (add x y) y (seq y))", "bug a odds 1 when " + test + ";").holding();
  }

  private static void holding() {
    String[] yes = {"size=8", "size>7", "size<9", "deep=2", "has x=2", "has y=3", "under seq y=3", "under add x=1",
        "under seq seq=1", "next x add=1", "next y seq=1", "next x y=1", "not size=7", "not not size=8",
        "has x>5 or has y>0", "size=8 or size=8 and size=9", "size=9 and size=8 or size=8", "not size=9 or size=9",
        "not[size=8 and size=9]", "[size=9 or size=8]and[deep=2 or deep=9]", "not size=9 and not[size=9 or deep=9]",
        "not not[not size=8 or size=8]", "size=08", "has seq=2 and has add=1 and not has x=0"};
    for (String y : yes) due(y, holds(y), 1);
    String[] no = {"size<8", "size>8", "deep>2", "has x=3", "under x y>0", "under add seq>0", "next y x>0",
        "next add x>0", "not size=8", "[size=8 or size=8]and size=9", "not[size=8 or size=9]", "not size=8 and size=8",
        "size=9 and size=8 or size=9", "not not not size=8", "not size=8 or size=9"};
    for (String n : no) due(n, holds(n), 0);
    Subject x = made(EXPRESSIONS, "x", "bug a odds 1 when size=1;bug b odds 1 when size=2;bug c odds 1 when deep=0;");
    due("as bits", x.holding(), 5);
    giveBugs(x, "");
    due("without BUGS", x.holding(), 0);
    due("many and", holds("size=8 and ".repeat(70) + "size=8"), 1);
    due("many and, one not", holds("size=8 and ".repeat(70) + "size=9"), 0);
    due("many and, the first not", holds("size=9 and " + "size=8 and ".repeat(60) + "size=8"), 0);
    due("many or", holds("size=9 or ".repeat(70) + "size=8"), 1);
    due("many or, none", holds("size=9 or ".repeat(70) + "size=9"), 0);
    due("both by turns", holds("size=9 or size=8 and ".repeat(40) + "size=8"), 1);
    due("many [", holds("[size=9]or".repeat(80) + "[size=9]"), 0);
    due("many not[", holds("not[size=9]and ".repeat(60) + "[size=8]"), 1);
    due("nests", holds("size=9 or size=8 and[".repeat(6) + "size=8" + "]".repeat(6)), 1);
    due("nests, the inmost not", holds("size=9 or size=8 and[".repeat(6) + "size=9" + "]".repeat(6)), 0);
    due("nests with nots", holds("size=9 or size=8 and not[".repeat(3) + "size=9" + "]".repeat(3)), 1);
    due("many steps", holds("not not not not not not size=9 or ".repeat(28) + "not size=8"), 0);
    due("without an INPUT", made(EXPRESSIONS, "", "bug a odds 1 when size=0;").holding(), -1);
  }

  private static void counts() {
    Subject x = made(EXPRESSIONS, "(seq x (add x y) y y (seq y (seq x x x)))", "");
    due("size", x.counts(0, -9, 99), 13);
    due("deep", x.counts(1, MOST, LEAST), 3);
    due("has x", x.counts(2, 0, -1), 5);
    due("has seq", x.counts(2, 3, 77), 3);
    due("under seq x", x.counts(3, 3, 0), 5);
    due("under seq seq", x.counts(3, 3, 3), 2);
    due("under add y", x.counts(3, 2, 1), 1);
    due("under x x", x.counts(3, 0, 0), 0);
    due("next x x", x.counts(4, 0, 0), 2);
    due("next y y", x.counts(4, 1, 1), 1);
    due("next y seq", x.counts(4, 1, 3), 2);
    due("next add y", x.counts(4, 2, 1), 1);
    due("next y add", x.counts(4, 1, 2), 0);
    for (int[] n : new int[][] {{5, 0, 0}, {-1, 0, 0}, {2, 4, 0}, {2, -1, 0}, {3, 0, 4}, {3, 4, 0}, {3, 0, -1},
        {4, 0, 4}, {4, -1, 0}, {LEAST, 0, 0}}) {
      due("counts" + Arrays.toString(n), x.counts(n[0], n[1], n[2]), -1);
    }
    due("without an INPUT", made(EXPRESSIONS, "", "").counts(0, 0, 0), -1);
  }

  private static final String TWO_ODDS = "bug a odds 70 when size>0;bug b odds 60 when size>0;";

  private static void verdict() {
    due("without an INPUT", made(EXPRESSIONS, "", TWO_ODDS).verdict(), -1);
    Subject x = made("leaf x e;", "x", TWO_ODDS);
    // Draws of seed 7: 76 61 | 55 | 74 22 | 89 88 | 91 31: NONE, a, b, NONE, b.
    x.seed(7);
    due("the first RUN", x.verdict(), -1);
    due("TRIED", x.count(5), 1);
    due("TRIED keeps it", x.verdict(), -1);
    due("RUNS", x.count(7), 1);
    due("asked again", x.count(6), 1);
    x.votes(3);
    x.seed(7);
    due("of like ones the least bug", x.verdict(), 0);
    x.votes(5);
    x.seed(7);
    due("NONE behind all bugs", x.verdict(), 1);
    due("RUNS", x.count(7), 9);
    // Draws of seed 1: 18 99.
    giveBugs(x, "bug a odds 18 when size>0;bug b odds 99 when size>0;bug c odds 100 when size>0;");
    x.votes(1);
    x.seed(1);
    due("odds of 100 without a DRAW", x.verdict(), 2);
    due("two DRAWS", x.count(9), 377401575);
    giveBugs(x, "bug a odds 1 when size>1;bug b odds 19 when size>0;bug c odds 50 when size>0;");
    x.seed(1);
    due("no DRAW for a TEST that does not hold", x.verdict(), 1);
    due("no DRAW behind the first that SHOWS", x.count(9), 1103527590);
    giveBugs(x, "");
    due("without BUGS", x.verdict(), -1);
    due("no DRAWS", x.count(9), 1103527590);
  }

  private static void run() {
    Subject x = made("leaf x e;", "x", TWO_ODDS);
    due("run(7)", x.run(7), -1);
    due("run(1)", x.run(1), 0);
    due("run(0)", x.run(0), 1);
    due("run(MOST)", x.run(MOST), 1);
    due("run(-1)", x.run(-1), -1);
    due("run(LEAST)", x.run(LEAST), -1);
    due("the seed stays", x.count(9), 1);
    due("no RUN of a VERDICT", x.count(7), 0);
    due("not TRIED", x.count(5), 0);
    due("without an INPUT", made("leaf x e;", "", "bug a odds 100 when size<9;").run(1), -1);
  }

  private static void single() {
    Subject x = made(CHAINS, "(top (a (b d)) (wide c d c) (a (b c)))", "bug a odds 1 when has wide>0;bug b odds 1 when size<11;");
    // By NODE: 0 LEAST; 4 CUT, LEAST; 8 CUT: no NODE has another one of its SORT in it.
    int[][] want = {{0, 1, -1, 4, 2}, {4, 0, -1, 7, 2}, {4, 1, -1, 10, 2}, {8, 0, -1, 8, 3}};
    due("how many", x.single(-1, 0), want.length);
    for (int k = 0; k < want.length; k++) {
      for (int w = 0; w < 5; w++) due("single(" + k + ", " + w + ")", x.single(k, w), want[k][w]);
    }
    x = made(EXPRESSIONS, "(add x (add y (seq x y)))", "bug a odds 1 when has y>1;");
    // NODES: 0 add, 1 x, 2 add, 3 y, 4 seq, 5 x, 6 y.
    int[][] next = {{0, 1, -1, 1, 0}, {0, 2, 1, 1, 0}, {0, 2, 2, 5, 1}, {0, 2, 3, 1, 0}, {0, 2, 4, 3, 0},
        {0, 2, 5, 1, 0}, {0, 2, 6, 1, 0}, {2, 1, -1, 3, 0}, {2, 2, 3, 3, 0}, {2, 2, 4, 5, 0}, {2, 2, 5, 3, 0},
        {2, 2, 6, 3, 0}, {4, 1, -1, 5, 0}, {4, 2, 5, 5, 0}, {4, 2, 6, 5, 1}, {5, 0, -1, 6, 1}, {6, 0, -1, 6, 0}};
    due("how many", x.single(-1, 0), next.length);
    for (int k = 0; k < next.length; k++) {
      for (int w = 0; w < 5; w++) due("single(" + k + ", " + w + ")", x.single(k, w), next[k][w]);
    }
    for (int[] n : new int[][] {{-1, 1}, {-1, -1}, {17, 0}, {-2, 0}, {0, 5}, {0, -1}, {MOST, 0}, {LEAST, 3}}) {
      due("single" + Arrays.toString(n), x.single(n[0], n[1]), -1);
    }
    dueInput(x, "(add x (add y (seq x y)))");
    due("none TRIED", x.count(5), 0);
    due("without an INPUT", new Subject().single(-1, 0), 0);
    due("without an INPUT", new Subject().single(0, 0), -1);
  }

  private static void tries() {
    Subject x = made(EXPRESSIONS, "(seq x y)", "bug a odds 100 when has y>0;bug b odds 100 when size<3;");
    // 0 LEAST x, 1 HOIST x, 2 HOIST y, 3 CUT of x, 4 CUT of y.
    int[] want = {1, 1, 0, 0, 1};
    for (int k = 0; k < 5; k++) due("tries(" + k + ")", x.tries(k), want[k]);
    due("TRIED", x.count(5), 4);
    due("had been", x.count(6), 1);
    dueTrace(x, 0, 1, 1, 6, 0);
    dueTrace(x, 1, 1, 0, 6, 0);
    dueTrace(x, 2, 2, 0, 6, 1);
    dueTrace(x, 3, 2, 1, 6, 2);
    for (int k : new int[] {5, -1, MOST, LEAST}) due("tries(" + k + ")", x.tries(k), -2);
    dueInput(x, "(seq x y)");
    due("without an INPUT", new Subject().tries(0), -2);
  }

  private static void change() {
    Subject x = made(CHAINS, "(top (wide c d c) (wide d d d))", "bug a odds 100 when size>0;");
    x.verdict();
    // NODES: 0 top, 1 wide, 5 wide: 0 LEAST; 1 LEAST; 5 CUT, LEAST.
    due("LEAST, deeper than what there was", x.change(1), 8);
    dueInput(x, "(top (a (b c)) (wide d d d))");
    due("the greatest LEVEL", x.count(11), 3);
    due("TRIED stay", x.count(5), 1);
    due("an act", x.count(10), 2);
    due("CUT", x.change(1), 4);
    dueInput(x, "(top (a (b c)))");
    due("none any more", x.change(0), -2);
    due("acts stay", x.count(10), 3);
    due("change(-1)", x.change(-1), -2);
    due("undo()", x.undo(), 2);
    dueInput(x, "(top (a (b c)) (wide d d d))");
    due("undo()", x.undo(), 1);
    dueInput(x, "(top (wide c d c) (wide d d d))");
    due("LEAST of all", x.change(0), 4);
    x = made(EXPRESSIONS, "(add x (add y (seq x y)))", "");
    due("HOIST in a PART", x.change(14), 5);
    dueInput(x, "(add x (add y y))");
    due("HOIST of all", x.change(2), 3);
    dueInput(x, "(add y y)");
    due("without an INPUT", new Subject().change(0), -2);
  }

  private static void more() {
    due("without an INPUT", made(EXPRESSIONS, "", "bug a odds 100 when size>0;").more(), -3);
    Subject x = made(EXPRESSIONS, "(seq x y)", "bug a odds 100 when has y>0;");
    due("the first", x.more(), 2);
    due("all ahead are TRIED", x.count(5), 3);
    due("like ones had been", x.count(6), 1);
    dueTrace(x, 0, 3, 0, 0, -1);
    dueTrace(x, 1, 1, -1, 6, 0);
    dueTrace(x, 2, 1, 0, 6, 0);
    due("once more", x.more(), 2);
    due("had been", x.count(6), 5);
    giveBugs(x, "bug a odds 100 when size=3;bug b odds 100 when size<3;");
    due("none fails so", x.more(), -1);
    due("all are TRIED", x.count(5), 5);
    giveBugs(x, "bug a odds 100 when size=9;");
    due("VERDICT is NONE", x.more(), -3);
    due("it is TRIED", x.count(5), 1);
    x = made(EXPRESSIONS, "y", "bug a odds 100 when has y>0;");
    due("no SINGLE change", x.more(), -1);
  }

  private static void apart() {
    String bugs = "bug a odds 1 when has y>0;bug b odds 1 when has x>0;bug c odds 1 when size>0;";
    Subject x = made(EXPRESSIONS, "(seq x y)", bugs);
    // 0 LEAST x, 1 HOIST x, 2 HOIST y, 3 CUT of x, 4 CUT of y.
    due("apart(0, 1)", x.apart(0, 1), 2);
    due("apart(1, 0)", x.apart(1, 0), 0);
    due("apart(0, 2)", x.apart(0, 2), -1);
    due("apart(2, 1)", x.apart(2, 1), 2);
    for (int[] n : new int[][] {{0, 0}, {0, 3}, {3, 0}, {-1, 0}, {0, -1}, {MOST, LEAST}}) {
      due("apart" + Arrays.toString(n), x.apart(n[0], n[1]), -2);
    }
    due("none TRIED", x.count(5), 0);
    x = made(EXPRESSIONS, "", bugs);
    due("without an INPUT", x.apart(0, 1), -3);
    due("one twice, without an INPUT", x.apart(1, 1), -2);
  }

  private static void reduce() {
    byLevels();
    byLevelsToLeast();
    byHoists();
    byCuts();
    byAll();
    Subject x = made(EXPRESSIONS, "(seq x y)", "bug a odds 100 when has y>5;bug b odds 100 when size>0;");
    for (int[] n : new int[][] {{2, 0}, {-1, 0}, {0, 4}, {0, -1}, {MOST, 0}, {0, LEAST}}) {
      due("reduce" + Arrays.toString(n), x.reduce(n[0], n[1]), -2);
    }
    due("none TRIED", x.count(5), 0);
    due("not its VERDICT", x.reduce(0, 3), -3);
    due("it is TRIED", x.count(5), 1);
    due("no act", x.count(10), 1);
    x = made(EXPRESSIONS, "", "bug a odds 100 when size>0;");
    due("without an INPUT", x.reduce(0, 0), -3);
    due("without an INPUT, no such bug", x.reduce(1, 0), -2);
  }

  private static void byLevels() {
    Subject x = made(EXPRESSIONS, "(seq x x y x x x x y)", "bug a odds 100 when has y>1;");
    due("BY LEVELS", x.reduce(0, 0), 4);
    dueInput(x, "(seq y y)");
    int[][] trace = {{9, 0, 0, -1}, {1, -1, 1, 1}, {5, -1, 2, 1}, {5, -1, 2, 1}, {3, -1, 2, 1}, {3, -1, 2, 1},
        {3, -1, 2, 1}, {7, 0, 3, 1}, {5, 0, 3, 1}, {2, -1, 2, 1}, {2, -1, 2, 1}, {4, -1, 3, 1}, {4, 0, 3, 1}, {3, 0, 3, 1}};
    due("TRIED", x.count(5), trace.length);
    for (int k = 0; k < trace.length; k++) dueTrace(x, k, trace[k][0], trace[k][1], trace[k][2], trace[k][3]);
    due("had been TRIED", x.count(6), 15);
    due("one act", x.count(10), 2);
    due("undo()", x.undo(), 1);
    dueInput(x, "(seq x x y x x x x y)");
    x = made(EXPRESSIONS, "(seq x (seq x y) (seq x x))", "bug a odds 100 when size>0;");
    due("all of a ROW", x.reduce(0, 0), 1);
    dueInput(x, "(seq)");
  }

  private static void byLevelsToLeast() {
    Subject x = made("leaf x e;leaf y e;form add e:e e;", "(add (add x y) (add y y))", "bug a odds 100 when has y>1;");
    due("BY LEVELS, by LEAST", x.reduce(0, 0), 1);
    dueInput(x, "(add x (add y y))");
    dueTrace(x, 1, 3, -1, 1, 1);
    dueTrace(x, 2, 5, -1, 2, 1);
    dueTrace(x, 3, 5, 0, 2, 1);
    due("TRIED", x.count(5), 4);
    // ROW of LEVEL 1: NODE 1 to be LEAST, 5 to be CUT, though LEAST is smaller, too.
    x = made(CHAINS, "(top (wide c c d) (wide c d d) (a (b d)))", "bug a odds 100 when has d>2;");
    due("BY LEVELS, CUT and LEAST", x.reduce(0, 0), 1);
    dueInput(x, "(top (a (b c)) (wide c d d) (a (b d)))");
    dueTrace(x, 1, 4, -1, 1, 1);
    dueTrace(x, 2, 5, -1, 2, 1);
  }

  private static void byHoists() {
    Subject x = made(EXPRESSIONS, "(add (add x y) y)", "bug a odds 100 when has y>0;");
    due("BY HOISTS", x.reduce(0, 1), 2);
    dueInput(x, "y");
    dueTrace(x, 0, 5, 0, 0, -1);
    dueTrace(x, 1, 3, 0, 4, 0);
    dueTrace(x, 2, 1, -1, 4, 0);
    dueTrace(x, 3, 1, 0, 4, 0);
    due("TRIED", x.count(5), 4);
    x = made(EXPRESSIONS, "(add x (seq (seq y) x))", "bug a odds 100 when has x>1 and has y>0;");
    due("BY HOISTS, further in", x.reduce(0, 1), 1);
    dueInput(x, "(add x (seq y x))");
    due("nothing taken", x.reduce(0, 1), 0);
    due("acts", x.count(10), 3);
  }

  private static void byCuts() {
    Subject x = made(EXPRESSIONS, "(seq x y (seq x))", "bug a odds 100 when has y>0;");
    due("BY CUTS", x.reduce(0, 2), 2);
    dueInput(x, "(seq y)");
    int[][] trace = {{5, 0, 0, -1}, {1, -1, 5, 0}, {4, 0, 5, 1}, {3, -1, 5, 1}, {2, 0, 5, 2}};
    due("TRIED", x.count(5), trace.length);
    for (int k = 0; k < trace.length; k++) dueTrace(x, k, trace[k][0], trace[k][1], trace[k][2], trace[k][3]);
    x = made(EXPRESSIONS, "(add (seq y y) (add x y))", "bug a odds 100 when has add>0 and has y>0;");
    due("BY CUTS, to LEAST", x.reduce(0, 2), 1);
    dueInput(x, "(add x (add x y))");
  }

  private static void byAll() {
    Subject x = made(EXPRESSIONS, "(seq x (add (seq x y) (add y x)) (seq (seq y) x))",
        "bug a odds 100 when under add y>0 and has x>0;");
    // LEVEL 1 to (seq (add ..)), LEVEL 2 to (add x (add y x)), hoisted to (add x (add y x)), to (add y x).
    int taken = x.reduce(0, 3);
    dueInput(x, "(add y x)");
    due("several taken", taken > 2 ? 1 : 0, 1);
    due("one less fails no longer so", x.more(), -1);
    due("one act", x.count(10), 2);
    due("ALL again", x.reduce(0, 3), 0);
    due("an act, too", x.count(10), 3);
  }

  private static void row() {
    Subject x = made(CHAINS, "(top (wide c d c) (a (b d)) (a (b c)))", "");
    due("row(1, NONE)", x.row(1, -1), 3);
    int[] want = {1, 5, 8};
    for (int k = 0; k < 3; k++) due("row(1, " + k + ")", x.row(1, k), want[k]);
    due("row(1, 3)", x.row(1, 3), -1);
    due("row(1, -2)", x.row(1, -2), -1);
    due("row(2, NONE)", x.row(2, -1), 0);
    due("row(2, 0)", x.row(2, 0), -1);
    due("row(99, NONE)", x.row(99, -1), 0);
    due("row(0, NONE)", x.row(0, -1), -1);
    due("row(-1, 0)", x.row(-1, 0), -1);
    due("row(LEAST, NONE)", x.row(LEAST, -1), -1);
    due("without an INPUT", new Subject().row(1, -1), -1);
    x = made(CHAINS, "(top (a (b d)) (wide c c c))", "");
    due("no * and not larger than LEAST", x.row(1, 0), 4);
  }

  private static void part() {
    Subject x = new Subject();
    int[][] want = {{0, 2}, {2, 3}, {5, 2}, {7, 3}};
    for (int i = 0; i < 4; i++) {
      due("part(10, 4, " + i + ", 0)", x.part(10, 4, i, 0), want[i][0]);
      due("part(10, 4, " + i + ", 1)", x.part(10, 4, i, 1), want[i][1]);
    }
    due("part(80, 80, 79, 0)", x.part(80, 80, 79, 0), 79);
    due("part(80, 80, 79, 1)", x.part(80, 80, 79, 1), 1);
    due("part(80, 1, 0, 1)", x.part(80, 1, 0, 1), 80);
    due("part(1, 1, 0, 1)", x.part(1, 1, 0, 1), 1);
    for (int[] n : new int[][] {{0, 1, 0, 0}, {81, 2, 0, 0}, {5, 0, 0, 0}, {5, 6, 0, 0}, {5, 2, 2, 0}, {5, 2, -1, 0},
        {5, 2, 0, 2}, {5, 2, 0, -1}, {-1, -1, -1, 0}, {MOST, MOST, 0, 0}, {5, LEAST, 0, 0}}) {
      due("part" + Arrays.toString(n), x.part(n[0], n[1], n[2], n[3]), -1);
    }
  }

  private static void tried() {
    Subject x = made(EXPRESSIONS, "(seq x y)", "bug a odds 100 when has y>0;bug b odds 100 when size>5;");
    due("none yet", x.tried(0), 0);
    x.more();
    due("tried(0)", x.tried(0), 2);
    due("tried(1)", x.tried(1), 0);
    due("tried(NONE)", x.tried(-1), 1);
    for (int v : new int[] {2, -2, MOST, LEAST}) due("tried(" + v + ")", x.tried(v), -2);
    x.votes(1);
    due("forgotten", x.tried(0), 0);
    due("on a new object", new Subject().tried(-1), 0);
    due("on a new object", new Subject().tried(0), -2);
  }

  private static void trace() {
    Subject x = made(EXPRESSIONS, "(seq (seq x y) x)", "bug a odds 100 when has y>0;");
    due("none yet", x.trace(0, 0), -2);
    x.tries(0);
    x.verdict();
    x.reduce(0, 0);
    // LEVEL 1: all; the first half kept is taken; LEVEL 2: all; the first half (seq (seq x)), the second.
    dueTrace(x, 0, 1, -1, 6, 0);
    dueTrace(x, 1, 5, 0, 0, -1);
    dueTrace(x, 2, 1, -1, 1, 1);
    dueTrace(x, 3, 4, 0, 2, 1);
    dueTrace(x, 4, 2, -1, 1, 2);
    dueTrace(x, 5, 3, -1, 2, 2);
    dueTrace(x, 6, 3, 0, 2, 2);
    due("TRIED", x.count(5), 7);
    dueInput(x, "(seq (seq y))");
    for (int[] n : new int[][] {{7, 0}, {-1, 0}, {0, 4}, {0, -1}, {MOST, 0}, {LEAST, 0}}) {
      due("trace" + Arrays.toString(n), x.trace(n[0], n[1]), -2);
    }
    x.seed(1);
    due("forgotten", x.trace(0, 0), -2);
  }

  private static void sure() {
    Subject x = new Subject();
    int[][] want = {{0, 1, 0}, {100, 9, 1000000}, {50, 7, 500000}, {1, 1, 10000}, {99, 1, 990000}, {1, 3, 298},
        {99, 3, 999702}, {60, 3, 648000}, {60, 5, 682560}, {60, 7, 710208}, {60, 9, 733432}, {90, 5, 991440}};
    for (int[] w : want) due("sure(" + w[0] + ", " + w[1] + ")", x.sure(w[0], w[1]), w[2]);
    for (int[] n : new int[][] {{-1, 1}, {101, 1}, {50, 0}, {50, 2}, {50, 10}, {50, 11}, {50, -1}, {MOST, 1}, {1, LEAST}}) {
      due("sure" + Arrays.toString(n), x.sure(n[0], n[1]), -2);
    }
  }

  private static void enough() {
    Subject x = new Subject();
    int[][] want = {{60, 0, 1}, {60, 600000, 1}, {60, 600001, 3}, {60, 648000, 3}, {60, 648001, 5}, {60, 710208, 7},
        {60, 733432, 9}, {60, 733433, -1}, {100, 1000000, 1}, {0, 0, 1}, {0, 1, -1}, {40, 400000, 1}, {40, 400001, -1}};
    for (int[] w : want) due("enough(" + w[0] + ", " + w[1] + ")", x.enough(w[0], w[1]), w[2]);
    for (int[] n : new int[][] {{-1, 0}, {101, 0}, {50, -1}, {50, 1000001}, {LEAST, MOST}}) {
      due("enough" + Arrays.toString(n), x.enough(n[0], n[1]), -2);
    }
  }

  private static void often() {
    Subject x = made("leaf x e;", "x", TWO_ODDS);
    due("often(NONE, 7, 5)", x.often(-1, 7, 5), 2);
    due("often(0, 7, 5)", x.often(0, 7, 5), 1);
    due("often(1, 7, 5)", x.often(1, 7, 5), 2);
    due("often(0, 7, 2)", x.often(0, 7, 2), 1);
    int sum = x.often(-1, 0, 1000) + x.often(0, 0, 1000) + x.often(1, 0, 1000);
    due("all of 1000", sum, 1000);
    due("the seed stays", x.count(9), 1);
    due("no RUNS of VERDICTS", x.count(7), 0);
    for (int[] n : new int[][] {{2, 1, 1}, {-2, 1, 1}, {0, -1, 1}, {0, 1, 0}, {0, 1, 1001}, {0, LEAST, 1}, {0, 1, LEAST}}) {
      due("often" + Arrays.toString(n), x.often(n[0], n[1], n[2]), -2);
    }
    x = made("leaf x e;", "", TWO_ODDS);
    due("without an INPUT", x.often(0, 1, 1), -3);
    due("without an INPUT, no such bug", x.often(2, 1, 1), -2);
  }

  private static void undo() {
    Subject x = made(EXPRESSIONS, "(seq x y)", "bug a odds 100 when has y>0;");
    x.verdict();
    x.change(3);
    due("TRIED stay by change()", x.count(5), 1);
    dueInput(x, "(seq y)");
    due("undo() of change()", x.undo(), 1);
    dueInput(x, "(seq x y)");
    due("TRIED are forgotten", x.count(5), 0);
    x.reduce(0, 3);
    dueInput(x, "y");
    due("undo() of reduce()", x.undo(), 1);
    dueInput(x, "(seq x y)");
    giveInput(x, "x");
    due("undo() of input()", x.undo(), 1);
    dueInput(x, "(seq x y)");
    due("BUGS stay", x.count(3), 1);
    due("undo() to none", x.undo(), 0);
    due("NODES", x.count(2), 0);
    due("none left", x.undo(), -3);

    x = made(EXPRESSIONS, "(seq" + " x".repeat(20) + ")", "bug a odds 100 when size>0;");
    for (int i = 0; i < 12; i++) due("change()", x.change(x.single(-1, 0) - 1), 20 - i);
    due("the last ten", x.count(10), 10);
    for (int i = 9; i >= 0; i--) {
      due("undo()", x.undo(), i);
      due("NODES", x.count(2), 19 - i);
    }
    due("none left", x.undo(), -3);
    due("NODES stay", x.count(2), 19);
  }
}
