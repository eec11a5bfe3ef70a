/** Boundary cases of the document's promises 1 to 32, call by call. */
final class CallBoundaries {
  private static final String EXPRESSIONS = TextBoundaries.EXPRESSIONS;
  private static final String CHAINS = TextBoundaries.CHAINS;
  private static final String ALWAYS = "bug a odds 100 when size>0;";
  private static final int MOST = Integer.MAX_VALUE;
  private static final int LEAST = Integer.MIN_VALUE;
  private static final int BLANKS = 0x20202020;

  private CallBoundaries() {}

  private static void due(String call, long got, long want) {
    Due.due(call, got, want);
  }

  private static void due(String call, boolean got, boolean want) {
    Due.due(call, got, want);
  }

  private static Subject of(String input, String bugs) {
    return Subject.of(EXPRESSIONS, input, bugs);
  }

  /** Numbers that are beside all that a call may be asked. */
  private static final int[] FAR = {LEAST, LEAST + 1, -65536, -1000, 1000000, 1 << 30, MOST - 1, MOST};

  @Says(in = "What it is", words = "An object is used for at most 512 calls after it has been made")
  static void use_512_calls_are_answered() {
    Subject x = of("(seq x y)", "bug a odds 50 when has y>0;");
    while (x.calls() < Subject.CALLS - 3) {
      due("votes(1)", x.votes(1), 1);
      int seed = x.count(9);
      due("verdict()", x.verdict(), TreeBoundaries.drawBehind(seed) < 50 ? 0 : -1);
    }
    while (x.calls() < Subject.CALLS - 1) x.holding();
    due("calls", x.calls(), 511);
    due("the 512th call", x.count(2), 3);
  }

  @Says(in = "Constants", words = "`NONE = -1`: There is none.")
  static void constants_none_is_less_1() {
    due("NONE", LeastFailing.NONE, -1);
  }

  // ---- 1: a new object

  @Says(in = "Promise 1", words = "No GRAMMAR, INPUT, BUGS; VOTES 1, the seed 1")
  static void promise01_a_new_object_is_empty() {
    Subject x = new Subject();
    int[] counts = {0, 0, 0, 0, 1, 0, 0, 0, 0, 1, 0, -1};
    for (int what = 0; what < counts.length; what++) due("count(" + what + ")", x.count(what), counts[what]);
    due("fault(0)", x.fault(0), 0);
    due("fault(1)", x.fault(1), -1);
    due("input()", x.input(), -3);
    due("bugs()", x.bugs(), -3);
    due("end(1)", x.end(1), false);
    due("letter(0, 0, 0)", x.letter(0, 0, 0), -1);
    due("line(0, 0)", x.line(0, 0), -1);
    due("least(0, NONE)", x.least(0, -1), -1);
    due("votes(1)", x.votes(1), 1);
  }

  @Says(in = "Promise 1", words = "VOTES 1, the seed 1.")
  static void promise01_votes_and_seed_are_1_at_first() {
    Subject x = of("x", "bug a odds 18 when size>0;bug b odds 19 when size>0;");
    // The first DRAW by the seed 1 is 18, the second 99.
    due("verdict()", x.verdict(), -1);
    due("RUNS", x.count(7), 1);
    due("the seed", x.count(9), TreeBoundaries.nextSeed(TreeBoundaries.nextSeed(1)));
  }

  // ---- 2, 3: the tape

  @Says(in = "Promise 2", words = "Twenty bytes come behind those on the tape, of each number the highest first: how many there are")
  static void promise02_twenty_bytes_come_the_highest_first() {
    Subject x = new Subject();
    due("feed()", x.feed(0x6c656166, 0x20782065, 0x3b206c65, 0x61662079, 0x20653b20), 20);
    due("feed()", x.feed(0x666f726d, 0x20662065, 0x3a652a3b, BLANKS, BLANKS), 40);
    due("grammar()", x.grammar(), 3);
    due("a * behind it", x.line(2, 3), 1);
    // The highest bit of a number is one of its first byte.
    x.feed(LEAST, 0, 0, 0, 0);
    due("grammar()", x.grammar(), -1);
    due("fault(1)", x.fault(1), 0);
    x.feed(0x2020207f, BLANKS, BLANKS, BLANKS, BLANKS);
    due("grammar()", x.grammar(), -1);
    due("fault(1), the lowest byte", x.fault(1), 3);
    x.feed(BLANKS, BLANKS, BLANKS, BLANKS, -1);
    due("grammar()", x.grammar(), -1);
    due("fault(1), the last number", x.fault(1), 16);
    x.feed(BLANKS, BLANKS, BLANKS, BLANKS, 0x202020ff);
    due("grammar()", x.grammar(), -1);
    due("fault(1), the last byte", x.fault(1), 19);
    // Behind those on the tape, also if these are no twenty.
    x.give("leaf x ");
    due("feed() behind 7", x.feed(0x653b2020, BLANKS, BLANKS, BLANKS, BLANKS), 27);
    due("grammar()", x.grammar(), 1);
  }

  @Says(in = "Promise 2", words = "NONE, and none come, if there would be more than 1000")
  static void promise02_none_come_if_there_would_be_more_than_1000() {
    Subject x = new Subject();
    for (int i = 1; i <= 50; i++) due("feed() no. " + i, x.feed(BLANKS, BLANKS, BLANKS, BLANKS, BLANKS), 20 * i);
    due("feed() beyond 1000", x.feed(1, 1, 1, 1, 1), -1);
    due("end(1001)", x.end(1001), false);
    for (int n : new int[] {999, 990, 981}) {
      due("end(" + n + ")", x.end(n), true);
      due("feed() behind " + n, x.feed(1, 1, 1, 1, 1), -1);
      due("none came", x.end(n + 1), false);
    }
    due("end(980)", x.end(980), true);
    due("feed() behind 980", x.feed(BLANKS, BLANKS, BLANKS, BLANKS, BLANKS), 1000);
    due("feed() beyond 1000", x.feed(1, 1, 1, 1, 1), -1);
    due("1000 blanks", x.grammar(), -1);
    due("all are blanks", x.fault(1), 1000);
    due("feed() on a tape that went", x.feed(0, 0, 0, 0, 0), 20);
    // A text of 1000 bytes is read to its last.
    due("1000 bytes", x.grammar("leaf x e;" + " ".repeat(982) + "leaf y e;"), 2);
    due("999 blanks, x", x.input(" ".repeat(999) + "x"), 1);
    due("1000 bytes of BUGS", x.bugs(" ".repeat(975) + "bug a odds 1 when size>0;"), 1);
  }

  @Says(in = "Promise 3", words = "The tape has its first n bytes alone: true")
  static void promise03_the_first_n_bytes_alone() {
    Subject x = new Subject();
    due("end(0) of none", x.end(0), true);
    x.give("leaf x e;leaf y e;  ");
    due("end(20), all of them", x.end(20), true);
    due("end(18)", x.end(18), true);
    due("end(19) behind it", x.end(19), false);
    due("end(9)", x.end(9), true);
    due("grammar() of the first 9", x.grammar(), 1);
    x.give("xy");
    due("end(1)", x.end(1), true);
    due("input() of the first byte", x.input(), 1);
    x.give("x");
    due("end(0)", x.end(0), true);
    due("input() of none", x.input(), -1);
    due("fault(1)", x.fault(1), 0);
    // What was cut away does not come again.
    x.give("x y                 ");
    x.end(1);
    x.feed(BLANKS, BLANKS, BLANKS, BLANKS, BLANKS);
    due("input()", x.input(), 1);
  }

  @Says(in = "Promise 3", words = "false if it has not so many, or n is below 0")
  static void promise03_false_beyond_the_tape_and_below_0() {
    Subject x = new Subject();
    due("end(1) of none", x.end(1), false);
    due("end(-1) of none", x.end(-1), false);
    x.give("leaf x e;");
    for (int n : new int[] {10, 11, 20, 1000, 1001, MOST, -1, -9, LEAST}) due("end(" + n + ")", x.end(n), false);
    due("all stays", x.grammar(), 1);
  }

  // ---- 4 to 7: the texts

  @Says(in = "Promise 4", words = "The tape is THE GRAMMAR: how many LINES")
  static void promise04_how_many_lines() {
    Subject x = new Subject();
    for (int many : new int[] {1, 2, 23, 24}) {
      due("grammar()", x.grammar(TextBoundaries.leaves(many)), many);
      due("count(0)", x.count(0), many);
    }
    // All of the GRAMMAR before is gone.
    x.grammar("form f a:b b*;leaf q b;");
    due("grammar() of one", x.grammar("leaf x e;"), 1);
    due("no LINE 1", x.line(1, 0), -1);
    due("no SORT 1", x.letter(1, 1, 0), -1);
    due("no LEAST 1", x.least(1, -1), -1);
    due("LINE 0 is a leaf", x.line(0, 0), 0);
    due("nothing behind a :", x.line(0, 2), 0);
    due("nothing behind a :", x.line(0, 10), -1);
    due("no *", x.line(0, 3), 0);
  }

  @Says(in = "Promise 4", words = "NONE with a FAULT (all stays)")
  static void promise04_all_stays_with_a_fault() {
    Subject x = of("(add x y)", "bug b odds 100 when size>0;");
    x.votes(3);
    x.seed(5);
    x.verdict();
    due("grammar() with a FAULT", x.grammar("leaf q q;leaf q q;"), -1);
    int[] counts = {4, 1, 3, 1, 3, 1, 0, 3, 0, 5, 1, 1};
    for (int what = 0; what < counts.length; what++) due("count(" + what + ")", x.count(what), counts[what]);
    Due.due("NAME 0", x.name(0, 0), "x");
    Due.due("SORT 0", x.name(1, 0), "e");
    Due.due("bug 0", x.name(2, 0), "b");
    Due.due("the INPUT", x.told(), "(add x y)");
    due("SORT 1", x.letter(1, 1, 0), -1);
    for (String bad : new String[] {"", "form f a:a;", TextBoundaries.leaves(25), "leaf a b;leaf c d"}) {
      due("grammar() with a FAULT", x.grammar(bad), -1);
    }
    due("LEAST stays", x.least(0, -1), 1);
    due("LEAST of another SORT", x.least(1, -1), -1);
    due("an INPUT of the GRAMMAR before", x.input("(seq y)"), 2);
    due("undo()", x.undo(), 1);
    due("undo()", x.undo(), 0);
  }

  @Says(in = "Promise 4", words = "Without one there is no INPUT, there are no BUGS any more, nothing to be undone")
  static void promise04_without_a_fault_all_else_goes() {
    Subject x = of("(add x y)", "bug b odds 100 when size>0;");
    x.votes(3);
    x.seed(5);
    x.verdict();
    x.change(0);
    due("grammar()", x.grammar(EXPRESSIONS), 4);
    int[] counts = {4, 1, 0, 0, 3, 0, 0, 3, 0, 5, 0, -1};
    for (int what = 0; what < counts.length; what++) due("count(" + what + ")", x.count(what), counts[what]);
    due("undo()", x.undo(), -3);
    due("holding()", x.holding(), -1);
    due("verdict()", x.verdict(), -1);
    due("node(0, 0)", x.node(0, 0), -2);
    due("letter(2, 0, 0)", x.letter(2, 0, 0), -1);
    due("single(NONE, 0)", x.single(-1, 0), 0);
    due("reduce(0, 0)", x.reduce(0, 0), -2);
    x.input("x");
    due("no bug holds", x.holding(), 0);
    due("undo() to none", x.undo(), 0);
  }

  @Says(in = "Promise 5", words = "The tape is THE INPUT: how many NODES")
  static void promise05_how_many_nodes() {
    Subject x = of("", "");
    due("one", x.input("x"), 1);
    due("80", x.input("(seq" + " x".repeat(79) + ")"), 80);
    due("one again", x.input("(seq)"), 1);
    due("no NODE 1", x.node(1, 0), -2);
    due("the greatest LEVEL", x.count(11), 0);
    due("81", x.input("(seq" + " x".repeat(80) + ")"), -1);
    due("NODES", x.count(2), 1);
  }

  @Says(in = "Promise 5", words = "NONE with a FAULT, -3 without a GRAMMAR (the tape goes; all else stays, fault() too)")
  static void promise05_none_with_a_fault() {
    Subject x = of("(seq x y)", ALWAYS);
    x.verdict();
    for (String bad : new String[] {"", "(seq x", "(seq z)", "(add x)", "x x", "(seq".repeat(13)}) {
      due("input() with a FAULT", x.input(bad), -1);
      due("TRIED stay", x.count(5), 1);
      due("acts stay", x.count(10), 1);
      due("NODES stay", x.count(2), 3);
      due("LEVEL stays", x.count(11), 1);
      due("the tape went", x.end(1), false);
    }
    Due.due("the INPUT", x.told(), "(seq x y)");
  }

  @Says(in = "Promise 5", words = "-3 without a GRAMMAR (the tape goes; all else stays, fault() too)")
  static void promise05_without_a_grammar() {
    Subject x = new Subject();
    due("without a GRAMMAR", x.input("x"), -3);
    due("the tape went", x.end(1), false);
    due("fault(0)", x.fault(0), 0);
    due("fault(1)", x.fault(1), -1);
    x.grammar("leaf");
    String state = x.state();
    due("behind grammar() with a FAULT", x.input("x"), -3);
    Due.due("all else", x.state(), state);
    due("fault(0) stays", x.fault(0), 1);
    due("fault(1) stays", x.fault(1), 4);
    due("none to undo", x.undo(), -3);
  }

  @Says(in = "Promise 5", words = "It can be undone (also to none)")
  static void promise05_it_can_be_undone_also_to_none() {
    Subject x = of("", ALWAYS);
    due("acts", x.count(10), 0);
    x.input("(seq x)");
    due("acts", x.count(10), 1);
    x.input("y");
    due("acts", x.count(10), 2);
    due("undo()", x.undo(), 1);
    Due.due("the INPUT", x.told(), "(seq x)");
    due("undo() to none", x.undo(), 0);
    due("NODES", x.count(2), 0);
    due("the greatest LEVEL", x.count(11), -1);
    due("holding()", x.holding(), -1);
    due("verdict()", x.verdict(), -1);
    due("input() with a FAULT", x.input("z"), -1);
    due("no act", x.undo(), -3);
  }

  @Says(in = "Promise 6", words = "The tape is THE BUGS: how many")
  static void promise06_how_many_bugs() {
    Subject x = of("x", "");
    for (int many : new int[] {6, 1, 0, 6}) {
      due("bugs()", x.bugs(TextBoundaries.bugs(many)), many);
      due("count(3)", x.count(3), many);
      due("holding()", x.holding(), (1 << many) - 1);
      due("the last one", x.letter(2, many - 1, 0), many == 0 ? -1 : many);
      due("none behind it", x.letter(2, many, 0), -1);
    }
  }

  @Says(in = "Promise 6", words = "NONE with a FAULT, -3 likewise")
  static void promise06_none_with_a_fault_and_without_a_grammar() {
    Subject x = new Subject();
    due("without a GRAMMAR", x.bugs(""), -3);
    x.grammar("leaf");
    String state = x.state();
    due("behind grammar() with a FAULT", x.bugs(ALWAYS), -3);
    due("the tape went", x.end(1), false);
    Due.due("all else", x.state(), state);
    due("fault(1) stays", x.fault(1), 4);
    x = of("(seq x y)", ALWAYS);
    x.verdict();
    for (String bad : new String[] {"bug", "bug a odds 0 when size>0;", "bug b odds 1 when has q>0;", TextBoundaries.bugs(7)}) {
      due("bugs() with a FAULT", x.bugs(bad), -1);
      due("BUGS stay", x.count(3), 1);
      due("holding() stays", x.holding(), 1);
      due("TRIED stay", x.count(5), 1);
      due("VERDICT stays", x.verdict(), 0);
      due("the tape went", x.end(1), false);
    }
    Due.due("its NAME", x.name(2, 0), "a");
  }

  @Says(in = "Promise 6", words = "NONE with a FAULT")
  static void promise06_a_fault_leaves_nothing_open() {
    Subject x = of("x", ALWAYS);
    String deep = "bug a odds 1 when [[[[[[size=1]]]]]];bug b odds 1 when not not not not not not size=2;bug c odds 1 when size=1;";
    for (String bad : new String[] {"[[[[[[", "not not not [[[size>0 or", "[[[[[[[", "[not[size>0 and", "size>0]]"}) {
      due("bugs() with a FAULT", x.bugs("bug a odds 1 when " + bad), -1);
      due("bugs() behind it", x.bugs(deep), 3);
      due("holding()", x.holding(), 5);
    }
    // An INPUT with a FAULT leaves no ( open either.
    for (String bad : new String[] {"(seq".repeat(13), "(seq(seq(seq", "(seq x(add"}) {
      due("input() with a FAULT", x.input(bad), -1);
      due("input() behind it", x.input("(seq".repeat(12) + ")".repeat(12)), 12);
      due("a leaf", x.input("x"), 1);
    }
    // Nor does a GRAMMAR leave LINES or SORTS.
    due("grammar() with a FAULT", x.grammar("form f a:b c d e;leaf x p;leaf x q;"), -1);
    due("grammar() behind it", x.grammar("leaf a a;leaf b b;leaf c c;leaf d d;leaf e e;leaf x f;"), 6);
    due("SORTS", x.count(1), 6);
  }

  @Says(in = "Promise 6", words = "(No act that is undone.)")
  static void promise06_no_act_that_is_undone() {
    Subject x = of("(seq x)", ALWAYS);
    x.input("y");
    due("acts", x.count(10), 2);
    x.bugs("bug q odds 1 when size>9;bug r odds 1 when size>0;");
    due("acts stay", x.count(10), 2);
    due("undo() of input()", x.undo(), 1);
    Due.due("the INPUT", x.told(), "(seq x)");
    due("BUGS stay", x.count(3), 2);
    due("holding()", x.holding(), 2);
  }

  @Says(in = "Promise 7", words = "Of the latest grammar(), input(), bugs() that was read: its FAULT (what 0; 0 without, and ahead of any), its place (1; NONE without)")
  static void promise07_of_the_latest_that_was_read() {
    Subject x = new Subject();
    due("fault(0) ahead of any", x.fault(0), 0);
    due("fault(1) ahead of any", x.fault(1), -1);
    x.grammar("");
    due("fault(0)", x.fault(0), 1);
    due("fault(1), the least place", x.fault(1), 0);
    x.grammar(EXPRESSIONS);
    due("fault(0) without", x.fault(0), 0);
    due("fault(1) without", x.fault(1), -1);
    x.input("z");
    due("fault(0) of input()", x.fault(0), 3);
    due("fault(1) of input()", x.fault(1), 0);
    x.bugs("bug a odds 0");
    due("fault(0) of bugs()", x.fault(0), 2);
    due("fault(1) of bugs()", x.fault(1), 11);
    x.input("(add x)");
    due("fault(0) of input()", x.fault(0), 5);
    due("fault(1) of input()", x.fault(1), 6);
    x.grammar("leaf x e;form f e:e e e e e;");
    due("fault(0) of grammar()", x.fault(0), 4);
    due("fault(1) of grammar()", x.fault(1), 26);
    // Calls that read no text leave it.
    x.feed(0, 0, 0, 0, 0);
    x.end(0);
    x.verdict();
    x.undo();
    x.votes(3);
    x.seed(3);
    due("fault(0) stays", x.fault(0), 4);
    x.bugs("");
    due("fault(0) of BUGS without one", x.fault(0), 0);
    due("fault(1) of BUGS without one", x.fault(1), -1);
    x.grammar("leaf x e;" + " ".repeat(991));
    due("fault(0)", x.fault(0), 0);
    x.grammar("leaf x e" + " ".repeat(992));
    due("fault(1), the greatest place", x.fault(1), 1000);
  }

  @Says(in = "Promise 7", words = "NONE for others")
  static void promise07_none_for_others() {
    Subject x = new Subject();
    x.grammar("leaf x");
    for (int what : new int[] {-1, 2, 3, 10}) due("fault(" + what + ")", x.fault(what), -1);
    for (int what : FAR) due("fault(" + what + ")", x.fault(what), -1);
  }

  // ---- 8, 9: VOTES, the seed

  @Says(in = "Promise 8", words = "VOTES are n: what they were")
  static void promise08_what_they_were() {
    Subject x = new Subject();
    int before = 1;
    for (int n : new int[] {1, 3, 5, 7, 9, 9, 1}) {
      due("votes(" + n + ")", x.votes(n), before);
      due("count(4)", x.count(4), n);
      before = n;
    }
  }

  @Says(in = "Promise 8", words = "-2")
  static void promise08_others_are_refused() {
    Subject x = of("x", ALWAYS);
    x.votes(5);
    x.verdict();
    for (int n : new int[] {0, 2, 4, 6, 8, 10, 11, 13, -1, -3, -9}) due("votes(" + n + ")", x.votes(n), -2);
    for (int n : FAR) due("votes(" + n + ")", x.votes(n), -2);
    due("VOTES stay", x.count(4), 5);
    due("TRIED stay", x.count(5), 1);
  }

  @Says(in = "Promise 9", words = "The seed (0 and on): 1")
  static void promise09_the_seed_from_0_to_the_greatest() {
    Subject x = of("x", "bug a odds 50 when size>0;");
    for (int seed : new int[] {0, 1, 2, 65536, MOST - 1, MOST}) {
      due("seed(" + seed + ")", x.seed(seed), 1);
      due("count(9)", x.count(9), seed);
      x.verdict();
      due("a DRAW", x.count(9), TreeBoundaries.nextSeed(seed));
    }
  }

  @Says(in = "Promise 9", words = "-2")
  static void promise09_below_0_is_refused() {
    Subject x = of("x", ALWAYS);
    x.seed(7);
    x.verdict();
    for (int seed : new int[] {-1, -2, LEAST, LEAST + 1}) due("seed(" + seed + ")", x.seed(seed), -2);
    due("the seed stays", x.count(9), 7);
    due("TRIED stay", x.count(5), 1);
  }

  // ---- 10 to 16: what there is

  @Says(in = "Promise 10", words = "0 LINES, 1 SORTS, 2 NODES of the INPUT, 3 BUGS, 4 VOTES, 5 TRIED")
  static void promise10_counts_of_none_and_of_all() {
    Subject x = new Subject();
    int[] none = {0, 0, 0, 0, 1, 0};
    for (int what = 0; what < 6; what++) due("count(" + what + ")", x.count(what), none[what]);
    x.grammar("form f a:b c d e*;form g f:a;" + "leaf b b;leaf c c;leaf d d;leaf e e;leaf a a;");
    due("LINES", x.count(0), 7);
    due("SORTS", x.count(1), 6);
    due("still no INPUT", x.count(2), 0);
    x.grammar(TextBoundaries.leaves(23) + "form seq e:e*;");
    x.input("(seq" + " a".repeat(79) + ")");
    x.bugs(TextBoundaries.bugs(6));
    x.votes(9);
    x.more();
    int[] all = {24, 1, 80, 6, 9};
    for (int what = 0; what < 5; what++) due("count(" + what + ")", x.count(what), all[what]);
    due("TRIED", x.count(5) > 0, true);
  }

  @Says(in = "Promise 10", words = "6 how many times a VERDICT was asked for of a TREE that had been TRIED, 7 RUNS of VERDICTS so far, 8 OUT so far")
  static void promise10_asked_again_runs_and_out() {
    Subject x = of("(seq x x)", ALWAYS);
    x.votes(9);
    x.verdict();
    due("not again", x.count(6), 0);
    due("9 RUNS", x.count(7), 9);
    x.verdict();
    due("again", x.count(6), 1);
    due("9 RUNS", x.count(7), 9);
    due("more()", x.more(), 0);
    due("again, by more()", x.count(6), 2);
    due("18 RUNS", x.count(7), 18);
    due("reduce()", x.reduce(0, 1), 1);
    // itself, and HOIST of x, which more() tried as LEAST
    due("again, by reduce()", x.count(6), 4);
    due("18 RUNS", x.count(7), 18);
    // run(), often() are no RUNS of VERDICTS; counts, holding() ask for none.
    x.run(1);
    x.often(0, 1, 1000);
    x.holding();
    x.single(0, 4);
    x.apart(0, 0);
    due("18 RUNS", x.count(7), 18);
    due("again", x.count(6), 4);
    due("none is OUT", x.count(8), 0);
  }

  @Says(in = "Promise 10", words = "9 the seed now, 10 acts that can be undone, 11 the greatest LEVEL")
  static void promise10_seed_acts_and_level() {
    Subject x = of("(seq(seq x))", "bug a odds 50 when size>0;");
    due("the seed", x.count(9), 1);
    x.verdict();
    due("the seed behind a DRAW", x.count(9), TreeBoundaries.nextSeed(1));
    due("acts", x.count(10), 1);
    due("the greatest LEVEL", x.count(11), 2);
    for (int i = 2; i <= 12; i++) {
      x.input("x");
      due("acts", x.count(10), Math.min(i, 10));
    }
    due("the greatest LEVEL of one NODE", x.count(11), 0);
  }

  @Says(in = "Promise 10", words = "(6, 7, 8 on since the object was made.)")
  static void promise10_6_7_8_go_on() {
    Subject x = of("x", ALWAYS);
    x.verdict();
    x.verdict();
    x.grammar(EXPRESSIONS);
    x.input("x");
    x.bugs(ALWAYS);
    x.seed(1);
    x.votes(3);
    due("again", x.count(6), 1);
    due("RUNS", x.count(7), 1);
    x.verdict();
    x.verdict();
    x.undo();
    due("again", x.count(6), 2);
    due("RUNS", x.count(7), 4);
    x = TreeBoundaries.manyTrees();
    TreeBoundaries.fill(x);
    x.more();
    int out = x.count(8);
    due("OUT", out > 0, true);
    x.votes(1);
    x.undo();
    x.grammar("leaf x e;");
    due("OUT goes on", x.count(8), out);
    due("RUNS go on", x.count(7), 600);
  }

  @Says(in = "Promise 10", words = "NONE for others; 11 without an INPUT")
  static void promise10_none_for_others() {
    Subject x = of("x", ALWAYS);
    for (int what : new int[] {-1, -2, 12, 13}) due("count(" + what + ")", x.count(what), -1);
    for (int what : FAR) due("count(" + what + ")", x.count(what), -1);
    due("count(11)", x.count(11), 0);
    x.undo();
    due("count(11) without an INPUT", x.count(11), -1);
    due("count(2) without an INPUT", x.count(2), 0);
    due("count(11) of a new object", new Subject().count(11), -1);
  }

  @Says(in = "Promise 11", words = "Letter i (0 .. 5) of a NAME (of leaves, forms, by LINES; kind 0), a SORT (1), a bug (2): 1 .. 26, 0 behind it")
  static void promise11_letters_1_to_26_and_0_behind() {
    Subject x = Subject.of("leaf a z;form zyxwva abcdef:z*;", "", "bug azazaz odds 1 when size>0;bug zz odds 1 when size>0;");
    int[][] want = {{0, 0, 1, 0, 0, 0, 0, 0}, {0, 1, 26, 25, 24, 23, 22, 1}, {1, 0, 26, 0, 0, 0, 0, 0},
        {1, 1, 1, 2, 3, 4, 5, 6}, {2, 0, 1, 26, 1, 26, 1, 26}, {2, 1, 26, 26, 0, 0, 0, 0}};
    for (int[] w : want) {
      for (int i = 0; i < 6; i++) due("letter(" + w[0] + ", " + w[1] + ", " + i + ")", x.letter(w[0], w[1], i), w[2 + i]);
    }
    x = Subject.of(TextBoundaries.leaves(23) + "leaf abcxyz e;", "", TextBoundaries.bugs(6));
    due("the 24th NAME", x.letter(0, 23, 5), 26);
    due("the sixth bug", x.letter(2, 5, 0), 6);
  }

  @Says(in = "Promise 11", words = "NONE when there is none such")
  static void promise11_none_when_there_is_none_such() {
    Subject x = Subject.of("leaf abcdef e;", "", ALWAYS);
    int[][] none = {{0, 0, 6}, {0, 0, -1}, {0, 1, 0}, {0, -1, 0}, {1, 1, 0}, {1, -1, 0}, {2, 1, 0}, {2, -1, 0}, {3, 0, 0},
        {-1, 0, 0}, {1, 0, 6}, {2, 0, 6}, {2, 0, -1}};
    for (int[] n : none) due("letter(" + n[0] + ", " + n[1] + ", " + n[2] + ")", x.letter(n[0], n[1], n[2]), -1);
    for (int far : FAR) {
      due("letter(" + far + ", 0, 0)", x.letter(far, 0, 0), -1);
      due("letter(0, " + far + ", 0)", x.letter(0, far, 0), -1);
      due("letter(0, 0, " + far + ")", x.letter(0, 0, far), -1);
    }
    for (int kind = 0; kind < 3; kind++) due("of a new object", new Subject().letter(kind, 0, 0), -1);
  }

  @Says(in = "Promise 12", words = "Of a LINE: 0 whether it is a form (1, 0), 1 its SORT, 2 how many SORTS stand behind its : (0 of a leaf), 3 whether the last has a * (1, 0), 10 on the SORTS behind it")
  static void promise12_lines_with_none_to_four_behind() {
    Subject x = Subject.of("leaf x a;form f b:;form g a:a;form h b:b*;form i a:a b a b;form j b:b a b a*;", "", "");
    int[][] want = {{0, 0, 0, 0, -1, -1, -1, -1}, {1, 1, 0, 0, -1, -1, -1, -1}, {1, 0, 1, 0, 0, -1, -1, -1},
        {1, 1, 1, 1, 1, -1, -1, -1}, {1, 0, 4, 0, 0, 1, 0, 1}, {1, 1, 4, 1, 1, 0, 1, 0}};
    for (int l = 0; l < want.length; l++) {
      for (int w = 0; w < 8; w++) {
        int what = w < 4 ? w : w + 6;
        due("line(" + l + ", " + what + ")", x.line(l, what), want[l][w]);
      }
      due("line(" + l + ", 14)", x.line(l, 14), -1);
    }
  }

  @Says(in = "Promise 12", words = "10 on the SORTS behind it")
  static void promise12_the_24th_line_in_full() {
    // 19 LINES of SORT e, four of a, b, c, d, and the last of a sixth SORT.
    String lines = TextBoundaries.leaves(19) + "leaf va a;leaf vb b;leaf vc c;leaf vd d;form last f:d c b a*;";
    Subject x = new Subject();
    due("grammar()", x.grammar(lines), 24);
    int[] want = {1, 5, 4, 1};
    for (int what = 0; what < 4; what++) due("line(23, " + what + ")", x.line(23, what), want[what]);
    for (int i = 0; i < 4; i++) due("line(23, " + (10 + i) + ")", x.line(23, 10 + i), 4 - i);
    due("line(23, 14)", x.line(23, 14), -1);
    Due.due("the sixth SORT", x.name(1, 5), "f");
    due("its LEAST", x.least(5, -1), 4);
    due("the first NODE of it", x.least(5, 0), 23);
    due("the last NODE of it", x.least(5, 3), 20);
    Due.due("the 24th NAME", x.name(0, 23), "last");
  }

  @Says(in = "Promise 12", words = "NONE when there is none such, or for others")
  static void promise12_none_when_there_is_none_such() {
    Subject x = Subject.of("form f e:e e e e*;leaf x e;", "", "");
    for (int what : new int[] {-1, 4, 5, 9, 14, 15}) due("line(0, " + what + ")", x.line(0, what), -1);
    for (int line : new int[] {-1, 2, 24}) due("line(" + line + ", 0)", x.line(line, 0), -1);
    for (int far : FAR) {
      due("line(" + far + ", 0)", x.line(far, 0), -1);
      due("line(0, " + far + ")", x.line(0, far), -1);
    }
    due("of a new object", new Subject().line(0, 0), -1);
  }

  @Says(in = "Promise 13", words = "LEAST of a SORT: how many NODES (k NONE), the NAME of its k-th NODE")
  static void promise13_least_to_its_last_node() {
    Subject x = Subject.of(CHAINS, "", "");
    int[][] want = {{0, 1, 2, 3}, {1, 2, 3}, {2, 3}, {3}};
    for (int s = 0; s < 4; s++) {
      due("least(" + s + ", NONE)", x.least(s, -1), want[s].length);
      for (int k = 0; k < want[s].length; k++) due("least(" + s + ", " + k + ")", x.least(s, k), want[s][k]);
      due("least(" + s + ", " + want[s].length + ")", x.least(s, want[s].length), -1);
    }
    x = Subject.of("form f a:b b;form g b:c d;leaf p c;leaf q d;", "", "");
    int[] names = {0, 1, 2, 3, 1, 2, 3};
    for (int k = 0; k < names.length; k++) due("least(0, " + k + ")", x.least(0, k), names[k]);
  }

  @Says(in = "Promise 13", words = "NONE when there is none such")
  static void promise13_none_when_there_is_none_such() {
    Subject x = Subject.of("leaf x e;leaf y s;", "", "");
    int[][] none = {{0, 1}, {0, -2}, {2, -1}, {2, 0}, {-1, -1}, {-1, 0}, {6, -1}};
    for (int[] n : none) due("least(" + n[0] + ", " + n[1] + ")", x.least(n[0], n[1]), -1);
    for (int far : FAR) {
      due("least(" + far + ", NONE)", x.least(far, -1), -1);
      due("least(0, " + far + ")", x.least(0, far), -1);
    }
    due("of a new object", new Subject().least(0, -1), -1);
  }

  @Says(in = "Promise 14", words = "5 the NODE of which it is a PART (NONE), 6 which one (0 on; NONE), 7 whether it stands for a * (1, 0)")
  static void promise14_node_0_is_no_part() {
    Subject x = of("(seq x(add x y))", "");
    due("the NODE of which NODE 0 is a PART", x.node(0, 5), -1);
    due("which one", x.node(0, 6), -1);
    due("for a *", x.node(0, 7), 0);
    due("NODE 1 is a PART of 0", x.node(1, 5), 0);
    due("the first", x.node(1, 6), 0);
    due("for a *", x.node(1, 7), 1);
    due("NODE 4 is a PART of 2", x.node(4, 5), 2);
    due("the second", x.node(4, 6), 1);
    due("for no *", x.node(4, 7), 0);
    // Of SORTS ahead of the * none stands for it.
    x = Subject.of("form f e:e e*;leaf x e;", "(f x x x)", "");
    int[] star = {0, 0, 1, 1};
    for (int i = 0; i < 4; i++) due("node(" + i + ", 7)", x.node(i, 7), star[i]);
  }

  @Says(in = "Promise 14", words = "Of a NODE of the INPUT: 0 its NAME, 1 its SORT, 2 its LEVEL, 3 how many NODES are in it (itself, too), 4 of how many PARTS it is made")
  static void promise14_nodes_of_the_least_and_the_largest() {
    Subject x = Subject.of(CHAINS, "(top(a(b d))(wide c d c))", "");
    int[][] want = {{0, 0, 0, 8, 2}, {1, 1, 1, 3, 1}, {2, 2, 2, 2, 1}, {5, 3, 3, 1, 0}, {4, 1, 1, 4, 3}, {3, 3, 2, 1, 0},
        {5, 3, 2, 1, 0}, {3, 3, 2, 1, 0}};
    for (int n = 0; n < want.length; n++) {
      for (int what = 0; what < 5; what++) due("node(" + n + ", " + what + ")", x.node(n, what), want[n][what]);
    }
    x = of("(seq)", "");
    due("NODES in it, itself", x.node(0, 3), 1);
    due("no PARTS", x.node(0, 4), 0);
  }

  @Says(in = "Promise 14", words = "-2 when there is none such, or for others")
  static void promise14_none_such() {
    Subject x = of("(seq x)", "");
    for (int[] n : new int[][] {{2, 0}, {-1, 0}, {80, 0}, {0, 8}, {0, -1}, {0, 10}, {2, 8}}) {
      due("node(" + n[0] + ", " + n[1] + ")", x.node(n[0], n[1]), -2);
    }
    for (int far : FAR) {
      due("node(" + far + ", 0)", x.node(far, 0), -2);
      due("node(0, " + far + ")", x.node(0, far), -2);
    }
    x.undo();
    for (int what = 0; what < 8; what++) due("without an INPUT", x.node(0, what), -2);
  }

  @Says(in = "Promise 15", words = "BUGS whose TESTS hold for the INPUT, as bits")
  static void promise15_bits_of_none_and_of_six() {
    Subject x = of("x", "");
    due("no BUGS", x.holding(), 0);
    x.bugs(TextBoundaries.bugs(6));
    due("all six", x.holding(), 63);
    for (int one = 0; one < 6; one++) {
      StringBuilder b = new StringBuilder();
      for (int i = 0; i < 6; i++) b.append("bug ").append((char) ('a' + i)).append(" odds 1 when size=").append(i == one ? 1 : 2).append(';');
      x.bugs(b.toString());
      due("the bug " + one + " alone", x.holding(), 1 << one);
    }
    due("none TRIED", x.count(5), 0);
  }

  @Says(in = "Promise 15", words = "NONE without an INPUT")
  static void promise15_none_without_an_input() {
    due("of a new object", new Subject().holding(), -1);
    Subject x = of("", "bug a odds 1 when size=0;");
    due("without an INPUT", x.holding(), -1);
    x.bugs("");
    due("without either", x.holding(), -1);
    x.input("x");
    due("with an INPUT", x.holding(), 0);
    x.undo();
    due("undone to none", x.holding(), -1);
  }

  @Says(in = "Promise 16", words = "A COUNT of the INPUT: 0 size, 1 deep, 2 has a, 3 under a b, 4 next a b (a, b NAMES by LINES; asked where they are meant)")
  static void promise16_names_are_asked_where_they_are_meant() {
    Subject x = of("(seq x(add x y)y(seq y x x))", "");
    due("NODES", x.count(2), 10);
    for (int far : FAR) {
      due("size, whatever a, b", x.counts(0, far, far), 10);
      due("deep, whatever a, b", x.counts(1, far, far), 2);
      due("has x, whatever b", x.counts(2, 0, far), 4);
    }
    due("size, a and b NONE", x.counts(0, -1, -1), 10);
    due("has seq", x.counts(2, 3, 4), 2);
    due("under seq x", x.counts(3, 3, 0), 4);
    due("under seq seq", x.counts(3, 3, 3), 1);
    due("under x x", x.counts(3, 0, 0), 0);
    due("next x x", x.counts(4, 0, 0), 1);
    due("next y seq", x.counts(4, 1, 3), 1);
    due("next seq y", x.counts(4, 3, 1), 0);
    x.input("x");
    due("size of one", x.counts(0, 0, 0), 1);
    due("deep of one", x.counts(1, 0, 0), 0);
    due("has y", x.counts(2, 1, 0), 0);
  }

  @Says(in = "Promise 16", words = "NONE without an INPUT, when there is none such, or for others")
  static void promise16_none_when_there_is_none_such() {
    Subject x = of("(seq x)", "");
    int[][] none = {{5, 0, 0}, {-1, 0, 0}, {2, 4, 0}, {2, -1, 0}, {3, 4, 0}, {3, 0, 4}, {3, -1, 0}, {3, 0, -1}, {4, 4, 0},
        {4, 0, 4}, {4, -1, 0}, {4, 0, -1}};
    for (int[] n : none) due("counts(" + n[0] + ", " + n[1] + ", " + n[2] + ")", x.counts(n[0], n[1], n[2]), -1);
    for (int far : FAR) {
      due("counts(" + far + ", 0, 0)", x.counts(far, 0, 0), -1);
      due("counts(2, " + far + ", 0)", x.counts(2, far, 0), -1);
      due("counts(3, 0, " + far + ")", x.counts(3, 0, far), -1);
      due("counts(4, " + far + ", 0)", x.counts(4, far, 0), -1);
    }
    due("the last NAME", x.counts(2, 3, 0), 1);
    x.undo();
    for (int what = 0; what < 5; what++) due("without an INPUT", x.counts(what, 0, 0), -1);
    due("of a new object", new Subject().counts(0, 0, 0), -1);
  }

  // ---- 17 to 23: VERDICTS, changes

  @Says(in = "Promise 17", words = "The INPUT's VERDICT (it is TRIED, if it was not)")
  static void promise17_tried_if_it_was_not() {
    Subject x = of("(seq x)", ALWAYS);
    due("verdict()", x.verdict(), 0);
    Due.dueTraces(x, new int[] {2, 0, 0, -1});
    due("verdict()", x.verdict(), 0);
    due("TRIED once", x.count(5), 1);
    // TRIED by tries() before: it stays what it was.
    x.change(x.single(-1, 0) - 1);
    x.undo();
    x.tries(x.single(-1, 0) - 1);
    x.change(x.single(-1, 0) - 1);
    due("verdict()", x.verdict(), 0);
    Due.dueTraces(x, new int[] {1, 0, 6, 1});
    due("no BUGS", of("x", "").verdict(), -1);
  }

  @Says(in = "Promise 17", words = "NONE, too, without an INPUT")
  static void promise17_none_without_an_input() {
    Subject x = of("", "bug a odds 100 when size<9;");
    due("verdict()", x.verdict(), -1);
    due("none TRIED", x.count(5), 0);
    due("no RUNS", x.count(7), 0);
    due("not OUT", x.count(8), 0);
    due("of a new object", new Subject().verdict(), -1);
  }

  @Says(in = "Promise 18", words = "What a RUN of the INPUT would tell, were the seed x (0 and on); the seed stays")
  static void promise18_by_the_seed_x_and_the_seed_stays() {
    Subject x = of("x", "bug a odds 50 when size>0;");
    x.seed(77);
    for (int seed : new int[] {0, 1, 2, 12345, MOST - 1, MOST}) {
      due("run(" + seed + ")", x.run(seed), TreeBoundaries.drawBehind(seed) < 50 ? 0 : -1);
      due("the seed stays", x.count(9), 77);
    }
    due("no RUNS of VERDICTS", x.count(7), 0);
    due("not TRIED", x.count(5), 0);
    // One RUN, also with nine VOTES; also of a TREE whose VERDICT is kept.
    x.votes(9);
    x.verdict();
    int none = TreeBoundaries.seedWithDraw(50);
    int shows = TreeBoundaries.seedWithDraw(49);
    due("run()", x.run(none), -1);
    due("run()", x.run(shows), 0);
    due("RUNS of VERDICTS", x.count(7), 9);
    due("not asked again", x.count(6), 0);
  }

  @Says(in = "Promise 18", words = "NONE, too, when x can't be, without an INPUT")
  static void promise18_none_when_x_cannot_be() {
    Subject x = of("x", "bug a odds 100 when size<9;");
    due("run(0)", x.run(0), 0);
    for (int seed : new int[] {-1, -2, LEAST, LEAST + 1}) due("run(" + seed + ")", x.run(seed), -1);
    due("the seed stays", x.count(9), 1);
    x.undo();
    due("without an INPUT", x.run(1), -1);
    due("of a new object", new Subject().run(1), -1);
  }

  @Says(in = "Promise 19", words = "SINGLE changes of the INPUT: how many (k NONE, what 0)")
  static void promise19_how_many() {
    due("of a new object", new Subject().single(-1, 0), 0);
    Subject x = of("x", "");
    due("none", x.single(-1, 0), 0);
    x.input("(seq x)");
    due("LEAST, HOIST, CUT", x.single(-1, 0), 3);
    x.input("(seq".repeat(12) + " x".repeat(68) + ")".repeat(12));
    // HOISTS of 12 forms: 79 + .. + 68; LEAST of 12; CUT of 79.
    due("of 80 NODES", x.single(-1, 0), 882 + 12 + 79);
    due("the last", x.single(972, 0), 79);
    due("behind it", x.single(973, 0), -1);
    x.undo();
    x.undo();
    x.undo();
    due("without an INPUT", x.single(-1, 0), 0);
  }

  @Says(in = "Promise 19", words = "of the k-th the NODE (what 0), 0 CUT, 1 LEAST, 2 HOIST (1), j (2; NONE), how many NODES there are behind it (3), BUGS whose TESTS hold then, as bits (4)")
  static void promise19_of_the_kth() {
    Subject x = of("(seq x(add x y))", "bug a odds 1 when has y>0;bug b odds 1 when size<4;");
    // NODES: 0 seq, 1 x, 2 add, 3 x, 4 y.
    int[][] want = {{0, 1, -1, 1, 2}, {0, 2, 1, 1, 2}, {0, 2, 2, 3, 3}, {0, 2, 3, 1, 2}, {0, 2, 4, 1, 3}, {1, 0, -1, 4, 1},
        {2, 0, -1, 2, 2}, {2, 1, -1, 3, 2}, {2, 2, 3, 3, 2}, {2, 2, 4, 3, 3}};
    due("how many", x.single(-1, 0), want.length);
    for (int k = 0; k < want.length; k++) {
      for (int what = 0; what < 5; what++) due("single(" + k + ", " + what + ")", x.single(k, what), want[k][what]);
    }
    Due.due("the INPUT stays", x.told(), "(seq x (add x y))");
    due("none TRIED", x.count(5), 0);
    due("no RUNS", x.count(7), 0);
    x.bugs("");
    due("no BUGS", x.single(0, 4), 0);
  }

  @Says(in = "Promise 19", words = "NONE when there is none such, or for others")
  static void promise19_none_when_there_is_none_such() {
    Subject x = of("(seq x)", ALWAYS);
    for (int[] n : new int[][] {{-1, 1}, {-1, 2}, {-1, 3}, {-1, 4}, {-1, -1}, {-1, 5}, {3, 0}, {3, 4}, {-2, 0}, {0, 5}, {0, -1}}) {
      due("single(" + n[0] + ", " + n[1] + ")", x.single(n[0], n[1]), -1);
    }
    for (int far : FAR) {
      due("single(" + far + ", 0)", x.single(far, 0), -1);
      due("single(0, " + far + ")", x.single(0, far), -1);
      due("single(NONE, " + far + ")", x.single(-1, far), -1);
    }
    for (int what = 0; what < 5; what++) due("of a new object", new Subject().single(0, what), -1);
  }

  @Says(in = "Promise 20", words = "VERDICT of the INPUT with the k-th SINGLE change (it is TRIED, if it was not)")
  static void promise20_tried_if_it_was_not() {
    Subject x = of("(seq x y)", "bug a odds 100 when has y>0;bug b odds 100 when size<3;");
    int[] want = {1, 1, 0, 0, 1};
    for (int k = 0; k < 5; k++) due("tries(" + k + ")", x.tries(k), want[k]);
    Due.dueTraces(x, new int[] {1, 1, 6, 0}, new int[] {1, 0, 6, 0}, new int[] {2, 0, 6, 1}, new int[] {2, 1, 6, 2});
    due("LEAST, HOIST of x are one", x.count(6), 1);
    Due.due("the INPUT stays", x.told(), "(seq x y)");
    due("acts stay", x.count(10), 1);
  }

  @Says(in = "Promise 20", words = "-2 when there is none such")
  static void promise20_none_such() {
    Subject x = of("(seq x y)", ALWAYS);
    due("tries(4)", x.tries(4), 0);
    for (int k : new int[] {5, -1, -2}) due("tries(" + k + ")", x.tries(k), -2);
    for (int far : FAR) due("tries(" + far + ")", x.tries(far), -2);
    due("one TRIED", x.count(5), 1);
    x.input("x");
    due("no SINGLE change", x.tries(0), -2);
    due("of a new object", new Subject().tries(0), -2);
  }

  @Says(in = "Promise 21", words = "The k-th SINGLE change is done to the INPUT: how many NODES it has")
  static void promise21_first_and_last_change() {
    Subject x = of("(seq x(add y y))", ALWAYS);
    due("how many", x.single(-1, 0), 10);
    due("the first: LEAST of NODE 0", x.change(0), 1);
    Due.due("the INPUT", x.told(), "x");
    due("an act", x.count(10), 2);
    x.undo();
    due("the last: HOIST in NODE 2", x.change(9), 3);
    Due.due("the INPUT", x.told(), "(seq x y)");
    due("the greatest LEVEL", x.count(11), 1);
    due("its LEVEL", x.node(2, 2), 1);
    due("which PART", x.node(2, 6), 1);
    due("NODES in NODE 0", x.node(0, 3), 3);
  }

  @Says(in = "Promise 21", words = "-2")
  static void promise21_none_such() {
    Subject x = of("(seq x y)", ALWAYS);
    x.verdict();
    String state = x.state();
    for (int k : new int[] {5, 6, -1, -2}) due("change(" + k + ")", x.change(k), -2);
    for (int far : FAR) due("change(" + far + ")", x.change(far), -2);
    Due.due("all stays", x.state(), state);
    x.input("x");
    due("no SINGLE change", x.change(0), -2);
    due("acts stay", x.count(10), 2);
    due("of a new object", new Subject().change(0), -2);
  }

  @Says(in = "Promise 22", words = "The first SINGLE change (its number) whose VERDICT is that of the INPUT (all ahead of it are TRIED, too)")
  static void promise22_the_first_and_all_ahead_are_tried() {
    Subject x = of("(seq x y)", "bug a odds 100 when has y>0;");
    due("more()", x.more(), 2);
    Due.dueTraces(x, new int[] {3, 0, 0, -1}, new int[] {1, -1, 6, 0}, new int[] {1, 0, 6, 0});
    due("LEAST, HOIST of x are one", x.count(6), 1);
    x = of("(seq x y)", ALWAYS);
    due("the very first", x.more(), 0);
    due("TRIED", x.count(5), 2);
    x = of("(seq x y)", "bug a odds 100 when has seq>0 and has x>0;");
    due("the very last", x.more(), 4);
    due("TRIED", x.count(5), 5);
    Due.due("the INPUT stays", x.told(), "(seq x y)");
  }

  @Says(in = "Promise 22", words = "NONE: none is: one less fails no longer so")
  static void promise22_none_is() {
    Subject x = of("(seq x y)", "bug a odds 100 when size=3;bug b odds 100 when size<3;");
    due("others fail, but not so", x.more(), -1);
    due("all are TRIED", x.count(5), 5);
    x = of("y", ALWAYS);
    due("no SINGLE change", x.more(), -1);
    due("itself is TRIED", x.count(5), 1);
  }

  @Says(in = "Promise 22", words = "-3 without an INPUT, or if its VERDICT is NONE")
  static void promise22_without_an_input_or_a_verdict() {
    due("of a new object", new Subject().more(), -3);
    // A TEST that would hold for a TREE of no NODES: there is none.
    Subject x = of("", "bug a odds 100 when size<9;");
    due("without an INPUT", x.more(), -3);
    due("none TRIED", x.count(5), 0);
    due("no RUNS", x.count(7), 0);
    x = of("(seq x y)", "bug a odds 100 when size>3;");
    due("VERDICT is NONE", x.more(), -3);
    Due.dueTraces(x, new int[] {3, -1, 0, -1});
    due("without BUGS", of("(seq x y)", "").more(), -3);
  }

  @Says(in = "Promise 23", words = "The first SINGLE change behind which the TEST of a bug holds, that of another one not; NONE: none")
  static void promise23_the_first_that_tells_them_apart() {
    Subject x = of("(seq x y)", "bug a odds 1 when has y>0;bug b odds 1 when has x>0;bug c odds 1 when size>0;bug d odds 1 when size=2 and has x>0;");
    // 0 LEAST x, 1 HOIST x, 2 HOIST y, 3 CUT of x, 4 CUT of y.
    int[][] want = {{-2, 2, -1, 2}, {0, -2, -1, 0}, {0, 2, -2, 0}, {4, -1, -1, -2}};
    for (int a = 0; a < 4; a++) {
      for (int b = 0; b < 4; b++) due("apart(" + a + ", " + b + ")", x.apart(a, b), want[a][b]);
    }
    due("none TRIED", x.count(5), 0);
    due("no RUNS", x.count(7), 0);
    x.input("x");
    due("no SINGLE change", x.apart(1, 0), -1);
  }

  @Says(in = "Promise 23", words = "-2 when there are none such (or one twice); -3 without an INPUT")
  static void promise23_none_such_or_one_twice() {
    Subject x = of("(seq x y)", TextBoundaries.bugs(2));
    for (int[] n : new int[][] {{0, 0}, {1, 1}, {0, 2}, {2, 0}, {-1, 0}, {0, -1}, {-1, -1}, {2, 3}}) {
      due("apart(" + n[0] + ", " + n[1] + ")", x.apart(n[0], n[1]), -2);
    }
    for (int far : FAR) {
      due("apart(" + far + ", 0)", x.apart(far, 0), -2);
      due("apart(0, " + far + ")", x.apart(0, far), -2);
    }
    x.undo();
    due("without an INPUT", x.apart(0, 1), -3);
    due("one twice, without an INPUT", x.apart(1, 1), -2);
    due("none such, without an INPUT", x.apart(0, 2), -2);
  }

  // ---- 24 to 28: reduced

  @Says(in = "Promise 24", words = "REDUCED for a bug: how 0 BY LEVELS, 1 BY HOISTS, 2 BY CUTS, 3 ALL: how many times one was taken")
  static void promise24_how_many_times_one_was_taken() {
    int[] want = {2, 1, 2, 3};
    String[] told = {"(seq (add y x))", "(add y x)", "(seq (add y x))", "(add y x)"};
    for (int how = 0; how < 4; how++) {
      Subject x = of("(seq x(add y x)x)", "bug a odds 100 when under add y>0 and has x>0;");
      due("reduce(0, " + how + ")", x.reduce(0, how), want[how]);
      Due.due("the INPUT", x.told(), told[how]);
    }
    Subject x = of("(seq" + " x".repeat(79) + ")", "bug a odds 100 when has seq>0;");
    due("79 times", x.reduce(0, 2), 79);
    Due.due("the INPUT", x.told(), "(seq)");
  }

  @Says(in = "Promise 24", words = "-2 (no such bug, how)")
  static void promise24_no_such_bug_or_how() {
    Subject x = of("(seq x y)", TextBoundaries.bugs(2));
    for (int[] n : new int[][] {{2, 0}, {-1, 0}, {0, 4}, {0, -1}, {2, 4}, {6, 3}}) {
      due("reduce(" + n[0] + ", " + n[1] + ")", x.reduce(n[0], n[1]), -2);
    }
    for (int far : FAR) {
      due("reduce(" + far + ", 0)", x.reduce(far, 0), -2);
      due("reduce(0, " + far + ")", x.reduce(0, far), -2);
    }
    due("none TRIED", x.count(5), 0);
    due("no act", x.count(10), 1);
    due("of a new object", new Subject().reduce(0, 0), -2);
  }

  @Says(in = "Promise 24", words = "-3 without an INPUT, or if that is not its VERDICT (it is TRIED)")
  static void promise24_without_an_input_or_not_its_verdict() {
    Subject x = of("", "bug a odds 100 when size<9;");
    for (int how = 0; how < 4; how++) due("without an INPUT", x.reduce(0, how), -3);
    due("none TRIED", x.count(5), 0);
    due("no act", x.count(10), 0);
    x = of("(seq x y)", "bug a odds 100 when size>3;bug b odds 100 when size>0;");
    for (int how = 0; how < 4; how++) due("reduce(0, " + how + ")", x.reduce(0, how), -3);
    Due.dueTraces(x, new int[] {3, 1, 0, -1});
    due("asked again", x.count(6), 3);
    due("no act", x.count(10), 1);
    Due.due("the INPUT stays", x.told(), "(seq x y)");
    x.bugs("bug a odds 100 when size>3;");
    due("VERDICT is NONE", x.reduce(0, 3), -3);
    due("no act", x.count(10), 1);
  }

  @Says(in = "Promise 24", words = "It can be undone (also if none was taken)")
  static void promise24_it_can_be_undone() {
    Subject x = of("(seq x y)", "bug a odds 100 when has y>0;");
    due("reduce()", x.reduce(0, 3), 2);
    due("one act", x.count(10), 2);
    due("none taken", x.reduce(0, 3), 0);
    due("an act, too", x.count(10), 3);
    due("undo() of nothing", x.undo(), 2);
    Due.due("the INPUT", x.told(), "y");
    due("undo()", x.undo(), 1);
    Due.due("the INPUT", x.told(), "(seq x y)");
  }

  @Says(in = "Promise 25", words = "ROW of a LEVEL of the INPUT: how many (k NONE), the k-th NODE")
  static void promise25_row_of_each_level() {
    Subject x = Subject.of(CHAINS, "(top(wide c d c)(a(b d))(a(b c)))", "");
    due("row(1, NONE)", x.row(1, -1), 3);
    int[] nodes = {1, 5, 8};
    for (int k = 0; k < 3; k++) due("row(1, " + k + ")", x.row(1, k), nodes[k]);
    due("a LEVEL without a ROW", x.row(2, -1), 0);
    due("the greatest LEVEL", x.row(3, -1), 0);
    x = of("(seq" + " x".repeat(79) + ")", "");
    due("79", x.row(1, -1), 79);
    due("the first", x.row(1, 0), 1);
    due("the last", x.row(1, 78), 79);
    x = of("(seq".repeat(12) + " x" + ")".repeat(12), "");
    for (int level = 1; level <= 12; level++) {
      due("row(" + level + ", NONE)", x.row(level, -1), 1);
      due("row(" + level + ", 0)", x.row(level, 0), level);
    }
    due("none TRIED", x.count(5), 0);
  }

  @Says(in = "Promise 25", words = "NONE when there is none such, LEVEL is below 1")
  static void promise25_none_when_there_is_none_such() {
    Subject x = of("(seq x y)", "");
    for (int[] n : new int[][] {{1, 2}, {1, -2}, {1, 80}, {2, 0}, {0, -1}, {0, 0}, {-1, -1}, {-1, 0}}) {
      due("row(" + n[0] + ", " + n[1] + ")", x.row(n[0], n[1]), -1);
    }
    for (int far : FAR) {
      due("row(1, " + far + ")", x.row(1, far), -1);
      due("row(" + far + ", 0)", x.row(far, 0), -1);
      if (far < 1) due("row(" + far + ", NONE)", x.row(far, -1), -1);
    }
    x.undo();
    due("without an INPUT", x.row(1, -1), -1);
    due("without an INPUT", x.row(1, 0), -1);
    due("of a new object", new Subject().row(1, -1), -1);
  }

  @Says(in = "Promise 26", words = "PART i of a ROW of many (1 .. 80) in n (1 .. many): where it begins (what 0), how many it has (1)")
  static void promise26_parts_from_the_first_to_the_last() {
    Subject x = new Subject();
    int[][] want = {{1, 1, 0, 0, 1}, {2, 1, 0, 0, 2}, {2, 2, 0, 0, 1}, {2, 2, 1, 1, 1}, {3, 2, 0, 0, 1}, {3, 2, 1, 1, 2},
        {10, 4, 0, 0, 2}, {10, 4, 1, 2, 3}, {10, 4, 2, 5, 2}, {10, 4, 3, 7, 3}, {80, 1, 0, 0, 80}, {80, 80, 0, 0, 1},
        {80, 80, 79, 79, 1}, {80, 3, 0, 0, 26}, {80, 3, 1, 26, 27}, {80, 3, 2, 53, 27}, {79, 80 - 2, 77, 77, 2}};
    for (int[] w : want) {
      due("part(" + w[0] + ", " + w[1] + ", " + w[2] + ", 0)", x.part(w[0], w[1], w[2], 0), w[3]);
      due("part(" + w[0] + ", " + w[1] + ", " + w[2] + ", 1)", x.part(w[0], w[1], w[2], 1), w[4]);
    }
    // PARTS stand side by side, and are all of ROW.
    for (int n = 1; n <= 7; n++) {
      int next = 0;
      for (int i = 0; i < n; i++) {
        due("begins", x.part(7, n, i, 0), next);
        next += x.part(7, n, i, 1);
      }
      due("all of ROW", next, 7);
    }
  }

  @Says(in = "Promise 26", words = "NONE when that can't be")
  static void promise26_none_when_that_cannot_be() {
    Subject x = new Subject();
    int[][] none = {{0, 1, 0, 0}, {0, 0, 0, 0}, {-1, 1, 0, 0}, {-5, -5, 0, 0}, {81, 1, 0, 0}, {81, 81, 80, 1}, {5, 0, 0, 0},
        {5, -1, 0, 0}, {5, 6, 0, 0}, {1, 2, 0, 0}, {5, 2, 2, 0}, {5, 2, -1, 0}, {5, 5, 5, 1}, {5, 2, 0, 2}, {5, 2, 0, -1},
        {80, 81, 0, 0}, {80, 80, 80, 0}};
    for (int[] n : none) {
      due("part(" + n[0] + ", " + n[1] + ", " + n[2] + ", " + n[3] + ")", x.part(n[0], n[1], n[2], n[3]), -1);
    }
    for (int far : FAR) {
      due("part(" + far + ", 1, 0, 0)", x.part(far, 1, 0, 0), -1);
      due("part(5, " + far + ", 0, 0)", x.part(5, far, 0, 0), -1);
      due("part(5, 2, " + far + ", 0)", x.part(5, 2, far, 0), -1);
      due("part(5, 2, 0, " + far + ")", x.part(5, 2, 0, far), -1);
      due("part(" + far + ", " + far + ", " + far + ", 0)", x.part(far, far, far, 0), -1);
    }
  }

  @Says(in = "Promise 27", words = "How many of the TREES TRIED had a VERDICT (a bug, or NONE: none)")
  static void promise27_how_many_had_a_verdict() {
    Subject x = of("(seq x y)", "bug a odds 100 when size=3;bug b odds 100 when has y>0;bug c odds 100 when size>9;");
    for (int v = -1; v < 3; v++) due("none yet", x.tried(v), 0);
    due("more()", x.more(), -1);
    int[] want = {2, 1, 2, 0};
    for (int v = -1; v < 3; v++) due("tried(" + v + ")", x.tried(v), want[v + 1]);
    x.more();
    due("asked again, TRIED once", x.tried(1), 2);
    x.seed(1);
    for (int v = -1; v < 3; v++) due("forgotten", x.tried(v), 0);
    due("of a new object", new Subject().tried(-1), 0);
  }

  @Says(in = "Promise 27", words = "-2 for others")
  static void promise27_others() {
    Subject x = of("(seq x y)", TextBoundaries.bugs(2));
    x.more();
    for (int v : new int[] {2, 3, 6, -2, -3}) due("tried(" + v + ")", x.tried(v), -2);
    for (int far : FAR) due("tried(" + far + ")", x.tried(far), -2);
    due("of a new object", new Subject().tried(0), -2);
  }

  @Says(in = "Promise 28", words = "Of the k-th TREE TRIED (0 on, as they came): 0 how many NODES, 1 its VERDICT, 2 for what it was")
  static void promise28_as_they_came() {
    Subject x = of("(seq(seq x y)x)", "bug a odds 100 when has y>0;");
    x.tries(0);
    x.verdict();
    x.tries(0);
    x.reduce(0, 0);
    Due.dueTraces(x, new int[] {1, -1, 6, 0}, new int[] {5, 0, 0, -1}, new int[] {1, -1, 1, 1}, new int[] {4, 0, 2, 1},
        new int[] {2, -1, 1, 2}, new int[] {3, -1, 2, 2}, new int[] {3, 0, 2, 2});
    x.seed(1);
    due("forgotten", x.trace(0, 0), -2);
    x.tries(0);
    Due.dueTraces(x, new int[] {1, -1, 6, 0});
  }

  @Says(in = "Promise 28", words = "0 itself (verdict(), reduce(), more()), 1 all of a ROW, 2 a PART alone kept, 3 without a PART, 4 HOIST, 5 CUT, LEAST (of reduce()), 6 a SINGLE change (tries(), more())")
  static void promise28_for_what_it_was() {
    String y = "bug a odds 100 when has y>0;";
    Subject x = of("(seq y x)", y);
    x.verdict();
    Due.dueTraces(x, new int[] {3, 0, 0, -1});
    x = of("(seq y x)", y);
    x.reduce(0, 1);
    Due.dueTraces(x, new int[] {3, 0, 0, -1}, new int[] {1, 0, 4, 0});
    x = of("(seq y x)", y);
    x.more();
    Due.dueTraces(x, new int[] {3, 0, 0, -1}, new int[] {1, -1, 6, 0}, new int[] {1, 0, 6, 0});
    x = of("(seq y x)", y);
    x.reduce(0, 2);
    Due.dueTraces(x, new int[] {3, 0, 0, -1}, new int[] {1, -1, 5, 0}, new int[] {2, -1, 5, 1}, new int[] {2, 0, 5, 2});
    x = of("(seq y x)", y);
    x.reduce(0, 0);
    Due.dueTraces(x, new int[] {3, 0, 0, -1}, new int[] {1, -1, 1, 1}, new int[] {2, 0, 2, 1});
    x = of("(seq y x y)", "bug a odds 100 when has y>1;");
    x.reduce(0, 0);
    Due.dueTraces(x, new int[] {4, 0, 0, -1}, new int[] {1, -1, 1, 1}, new int[] {2, -1, 2, 1}, new int[] {3, -1, 2, 1},
        new int[] {2, -1, 2, 1}, new int[] {3, 0, 3, 1});
  }

  @Says(in = "Promise 28", words = "3 the LEVEL of its ROW (for 1, 2, 3), else its NODE (4, 5, 6; NONE of 0)")
  static void promise28_its_level_or_its_node() {
    // BY HOISTS and BY CUTS at NODE 2, BY LEVELS at LEVEL 2, SINGLE changes at NODE 2.
    String test = "bug a odds 100 when under add y>0 and has x>0;";
    Subject x = of("(add x(seq y))", test);
    x.reduce(0, 1);
    due("itself", x.trace(0, 3), -1);
    due("the last, a HOIST", x.trace(x.count(5) - 1, 2), 4);
    due("at NODE 2", x.trace(x.count(5) - 1, 3), 2);
    x = of("(add x(seq y x))", test);
    x.reduce(0, 2);
    due("the last, a CUT", x.trace(x.count(5) - 1, 2), 5);
    due("at NODE 4", x.trace(x.count(5) - 1, 3), 4);
    x = of("(add x(seq y x))", test);
    x.reduce(0, 0);
    due("the last, of a ROW", x.trace(x.count(5) - 1, 2), 2);
    due("of LEVEL 2", x.trace(x.count(5) - 1, 3), 2);
    x = of("(add x(seq y x))", test);
    int last = x.single(-1, 0) - 1;
    x.tries(last);
    due("a SINGLE change", x.trace(0, 2), 6);
    due("at NODE 4", x.trace(0, 3), 4);
  }

  @Says(in = "Promise 28", words = "-2 when there is none such, or for others")
  static void promise28_none_such() {
    Subject x = of("(seq x y)", ALWAYS);
    due("none yet", x.trace(0, 0), -2);
    x.verdict();
    for (int[] n : new int[][] {{1, 0}, {-1, 0}, {0, 4}, {0, -1}, {600, 0}, {1, 4}}) {
      due("trace(" + n[0] + ", " + n[1] + ")", x.trace(n[0], n[1]), -2);
    }
    for (int far : FAR) {
      due("trace(" + far + ", 0)", x.trace(far, 0), -2);
      due("trace(0, " + far + ")", x.trace(0, far), -2);
    }
    due("of a new object", new Subject().trace(0, 0), -2);
  }

  // ---- 29 to 31: VOTES

  @Says(in = "Promise 29", words = "SURE, odds 0 .. 100, n 1, 3, 5, 7, 9")
  static void promise29_odds_and_runs_at_their_ends() {
    Subject x = new Subject();
    for (int n : new int[] {1, 3, 5, 7, 9}) {
      for (int odds : new int[] {0, 1, 2, 49, 50, 51, 98, 99, 100}) {
        due("sure(" + odds + ", " + n + ")", x.sure(odds, n), TreeBoundaries.sure(odds, n));
      }
    }
  }

  @Says(in = "Promise 29", words = "-2")
  static void promise29_others() {
    Subject x = new Subject();
    for (int[] n : new int[][] {{-1, 1}, {101, 1}, {50, 0}, {50, 2}, {50, 4}, {50, 6}, {50, 8}, {50, 10}, {50, 11}, {50, -1}}) {
      due("sure(" + n[0] + ", " + n[1] + ")", x.sure(n[0], n[1]), -2);
    }
    for (int far : FAR) {
      due("sure(" + far + ", 1)", x.sure(far, 1), -2);
      due("sure(50, " + far + ")", x.sure(50, far), -2);
    }
  }

  @Says(in = "Promise 30", words = "The fewest RUNS (1, 3, 5, 7, 9) with SURE so much (0 .. 1000000) or more")
  static void promise30_so_much_or_more() {
    Subject x = new Subject();
    for (int odds : new int[] {55, 60, 75, 99}) {
      int[] runs = {1, 3, 5, 7, 9};
      for (int i = 0; i < 5; i++) {
        int sure = TreeBoundaries.sure(odds, runs[i]);
        // At odds of 99 seven RUNS are as SURE as nine, cut to millionths.
        int first = i;
        while (first > 0 && TreeBoundaries.sure(odds, runs[first - 1]) >= sure) first--;
        due("enough(" + odds + ", " + sure + ")", x.enough(odds, sure), runs[first]);
        int next = i;
        while (next < 5 && TreeBoundaries.sure(odds, runs[next]) < sure + 1) next++;
        due("enough(" + odds + ", " + (sure + 1) + ")", x.enough(odds, sure + 1), next < 5 ? runs[next] : -1);
      }
    }
    due("enough(0, 0)", x.enough(0, 0), 1);
    due("enough(100, 1000000)", x.enough(100, 1000000), 1);
    due("enough(60, 648000)", x.enough(60, 648000), 3);
    due("enough(60, 648001)", x.enough(60, 648001), 5);
  }

  @Says(in = "Promise 30", words = "NONE: none")
  static void promise30_none() {
    Subject x = new Subject();
    due("enough(0, 1)", x.enough(0, 1), -1);
    due("enough(50, 500000)", x.enough(50, 500000), 1);
    due("enough(50, 500001)", x.enough(50, 500001), -1);
    due("enough(40, 400001)", x.enough(40, 400001), -1);
    due("enough(99, 1000000)", x.enough(99, 1000000), -1);
  }

  @Says(in = "Promise 30", words = "-2")
  static void promise30_others() {
    Subject x = new Subject();
    for (int[] n : new int[][] {{-1, 0}, {101, 0}, {50, -1}, {50, 1000001}, {100, 1000001}, {0, -1}}) {
      due("enough(" + n[0] + ", " + n[1] + ")", x.enough(n[0], n[1]), -2);
    }
    for (int far : new int[] {LEAST, -1000, 1000001, MOST}) {
      due("enough(" + far + ", 0)", x.enough(far, 0), -2);
      due("enough(50, " + far + ")", x.enough(50, far), -2);
    }
  }

  @Says(in = "Promise 31", words = "How many of n RUNS (1 .. 1000) of the INPUT, by the seed x (0 and on), one behind the other, tell a bug (or NONE: none); the seed stays")
  static void promise31_from_one_run_to_1000() {
    Subject x = of("x", TreeBoundaries.bugsOf(70, 60));
    x.seed(33);
    for (int seed : new int[] {0, 7, MOST}) {
      for (int n : new int[] {1, 2, 999, 1000}) {
        int[] told = TreeBoundaries.tally(seed, n, 70, 60);
        due("often(0, " + seed + ", " + n + ")", x.often(0, seed, n), told[0]);
        due("often(1, " + seed + ", " + n + ")", x.often(1, seed, n), told[1]);
        due("often(NONE, " + seed + ", " + n + ")", x.often(-1, seed, n), told[2]);
      }
    }
    due("the seed stays", x.count(9), 33);
    due("no RUNS of VERDICTS", x.count(7), 0);
    due("none TRIED", x.count(5), 0);
    x.bugs(ALWAYS);
    due("all of 1000", x.often(0, 1, 1000), 1000);
    due("none of 1000", x.often(-1, 1, 1000), 0);
    x.bugs("");
    due("without BUGS", x.often(-1, 1, 1000), 1000);
  }

  @Says(in = "Promise 31", words = "-2 for others; -3 without an INPUT")
  static void promise31_others() {
    Subject x = of("x", TextBoundaries.bugs(2));
    for (int[] n : new int[][] {{2, 1, 1}, {-2, 1, 1}, {0, -1, 1}, {0, 1, 0}, {0, 1, -1}, {0, 1, 1001}, {-1, 1, 1001}}) {
      due("often(" + n[0] + ", " + n[1] + ", " + n[2] + ")", x.often(n[0], n[1], n[2]), -2);
    }
    for (int far : FAR) {
      due("often(" + far + ", 1, 1)", x.often(far, 1, 1), -2);
      due("often(0, 1, " + far + ")", x.often(0, 1, far), -2);
      if (far < 0) due("often(0, " + far + ", 1)", x.often(0, far, 1), -2);
    }
    due("the seed stays", x.count(9), 1);
    x.undo();
    due("without an INPUT", x.often(0, 1, 1), -3);
    due("without an INPUT, none", x.often(-1, 1, 1), -3);
    due("without an INPUT, no such bug", x.often(2, 1, 1), -2);
  }

  // ---- 32: back

  @Says(in = "Promise 32", words = "The INPUT is as it was ahead of the latest act (input(), change(), reduce(); the last 10): how many can be undone yet")
  static void promise32_the_last_10_acts() {
    Subject x = of("(seq" + " x".repeat(20) + ")", ALWAYS);
    due("acts", x.count(10), 1);
    for (int i = 0; i < 9; i++) due("change()", x.change(x.single(-1, 0) - 1), 20 - i);
    due("ten acts", x.count(10), 10);
    due("an eleventh", x.change(x.single(-1, 0) - 1), 11);
    due("still ten", x.count(10), 10);
    for (int i = 9; i >= 0; i--) {
      due("undo()", x.undo(), i);
      due("NODES", x.count(2), 21 - i);
    }
    due("input() is undone no longer", x.undo(), -3);
    due("NODES", x.count(2), 21);
    // Ten exactly: the first of them, input(), is undone to none.
    x = of("(seq" + " x".repeat(20) + ")", ALWAYS);
    for (int i = 0; i < 9; i++) x.change(x.single(-1, 0) - 1);
    for (int i = 9; i >= 0; i--) due("undo()", x.undo(), i);
    due("to none", x.count(2), 0);
  }

  @Says(in = "Promise 32", words = "ahead of the latest act (input(), change(), reduce()")
  static void promise32_each_kind_of_act() {
    Subject x = of("(seq x y)", "bug a odds 100 when has y>0;");
    x.change(3);
    x.reduce(0, 3);
    x.input("(add y y)");
    x.verdict();
    x.more();
    x.tries(0);
    due("acts", x.count(10), 4);
    due("undo() of input()", x.undo(), 3);
    Due.due("the INPUT", x.told(), "y");
    due("undo() of reduce()", x.undo(), 2);
    Due.due("the INPUT", x.told(), "(seq y)");
    due("its LEVEL", x.count(11), 1);
    due("undo() of change()", x.undo(), 1);
    Due.due("the INPUT", x.told(), "(seq x y)");
    x.change(0);
    due("an act anew", x.count(10), 2);
    due("undo()", x.undo(), 1);
    due("undo() to none", x.undo(), 0);
    due("NODES", x.count(2), 0);
    due("BUGS stay", x.count(3), 1);
    due("LINES stay", x.count(0), 4);
  }

  @Says(in = "Promise 32", words = "-3: none")
  static void promise32_none() {
    Subject x = new Subject();
    due("of a new object", x.undo(), -3);
    x.grammar(EXPRESSIONS);
    due("behind grammar()", x.undo(), -3);
    x.input("x");
    due("undo()", x.undo(), 0);
    String state = x.state();
    due("none left", x.undo(), -3);
    due("none left", x.undo(), -3);
    Due.due("all stays", x.state(), state);
    x.input("y");
    due("undo()", x.undo(), 0);
  }
}
