import java.math.BigInteger;
import java.util.Arrays;

/** Boundary cases of the document's terms II (RUNS, VERDICTS, changes, reducing) and III. */
final class TreeBoundaries {
  private static final String EXPRESSIONS = TextBoundaries.EXPRESSIONS;
  private static final String CHAINS = TextBoundaries.CHAINS;
  private static final int MOST = Integer.MAX_VALUE;

  private TreeBoundaries() {}

  private static void due(String call, long got, long want) {
    Due.due(call, got, want);
  }

  private static Subject of(String input, String bugs) {
    return Subject.of(EXPRESSIONS, input, bugs);
  }

  private static Subject ofTest(String input, String test) {
    return of(input, "bug a odds 100 when " + test + ";");
  }

  // ---- DRAWS and RUNS, worked out apart from the class

  static int nextSeed(int seed) {
    return BigInteger.valueOf(1103515245).multiply(BigInteger.valueOf(seed)).add(BigInteger.valueOf(12345))
        .mod(BigInteger.ONE.shiftLeft(31)).intValueExact();
  }

  static int drawBehind(int seed) {
    return nextSeed(seed) / 64 % 100;
  }

  /** How often each of BUGS whose TESTS hold is told by n RUNS; the last number: NONE. */
  static int[] tally(int seed, int n, int... odds) {
    int[] told = new int[odds.length + 1];
    int s = seed;
    for (int i = 0; i < n; i++) {
      int bug = 0;
      while (bug < odds.length && odds[bug] < 100) {
        int draw = drawBehind(s);
        s = nextSeed(s);
        if (draw < odds[bug]) break;
        bug++;
      }
      told[bug]++;
    }
    return told;
  }

  static int seedWithDraw(int draw) {
    int seed = 0;
    while (drawBehind(seed) != draw) seed++;
    return seed;
  }

  private static int seedWithTally(int[] told, int... odds) {
    int seed = 0;
    while (!Arrays.equals(tally(seed, Arrays.stream(told).sum(), odds), told)) seed++;
    return seed;
  }

  /** BUGS a, b .. of such odds, whose TESTS hold for all. */
  static String bugsOf(int... odds) {
    StringBuilder b = new StringBuilder();
    for (int i = 0; i < odds.length; i++) {
      b.append("bug ").append((char) ('a' + i)).append(" odds ").append(odds[i]).append(" when size>0;");
    }
    return b.toString();
  }

  @Says(in = "Terms II", words = "A RUN of a TREE: BUGS by numbers: if its TEST holds, it SHOWS")
  static void terms2_a_bug_whose_test_does_not_hold_does_not_show() {
    Subject x = of("x", "bug a odds 100 when size>1;bug b odds 50 when size>1;bug c odds 100 when size>0;");
    x.seed(7);
    due("the third", x.verdict(), 2);
    due("no DRAW", x.count(9), 7);
    x.bugs("bug a odds 100 when size>1;");
    due("none holds", x.verdict(), -1);
    x.bugs("");
    due("no BUGS", x.verdict(), -1);
  }

  @Says(in = "Terms II", words = "it SHOWS, if odds are 100")
  static void terms2_odds_of_100_show_without_a_draw() {
    int seed = seedWithDraw(99);
    Subject x = of("x", bugsOf(100));
    x.seed(seed);
    due("odds 100", x.verdict(), 0);
    due("no DRAW", x.count(9), seed);
    x.bugs(bugsOf(99));
    due("odds 99, a DRAW of 99", x.verdict(), -1);
    due("a DRAW", x.count(9), nextSeed(seed));
  }

  @Says(in = "Terms II", words = "or a DRAW of 100 is below its odds")
  static void terms2_a_draw_shows_below_the_odds() {
    Subject x = of("x", "");
    for (int draw : new int[] {0, 1, 2, 49, 50, 97, 98, 99}) {
      int seed = seedWithDraw(draw);
      if (draw > 0) {
        x.bugs(bugsOf(draw));
        due("odds " + draw + ", a DRAW as much", x.run(seed), -1);
      }
      x.bugs(bugsOf(draw + 1));
      due("odds " + (draw + 1) + ", a DRAW one less", x.run(seed), 0);
    }
  }

  @Says(in = "Terms II", words = "the first that SHOWS is what the RUN tells (then no more DRAWS), NONE, if none does")
  static void terms2_the_first_that_shows_and_no_more_draws() {
    int seed = seedWithTally(new int[] {0, 1, 0, 0}, 30, 40, 50);
    Subject x = of("x", bugsOf(30, 40, 50));
    x.seed(seed);
    due("the second", x.verdict(), 1);
    due("two DRAWS", x.count(9), nextSeed(nextSeed(seed)));
    seed = seedWithTally(new int[] {1, 0, 0, 0}, 30, 40, 50);
    x.seed(seed);
    due("the first", x.verdict(), 0);
    due("one DRAW", x.count(9), nextSeed(seed));
    seed = seedWithTally(new int[] {0, 0, 0, 1}, 30, 40, 50);
    x.seed(seed);
    due("none", x.verdict(), -1);
    due("three DRAWS", x.count(9), nextSeed(nextSeed(nextSeed(seed))));
    x.bugs(bugsOf(100, 50));
    x.seed(seed);
    due("odds 100 first", x.verdict(), 0);
    due("no DRAW of the second", x.count(9), seed);
  }

  @Says(in = "Terms II", words = "of VOTES RUNS (1, 3, 5, 7 or 9; 1 at first)")
  static void terms2_a_verdict_has_as_many_runs_as_votes() {
    Subject x = of("x", bugsOf(50));
    x.verdict();
    due("1 RUN at first", x.count(7), 1);
    int runs = 1;
    for (int n : new int[] {9, 7, 5, 3, 1}) {
      x.votes(n);
      int seed = x.count(9);
      x.verdict();
      runs += n;
      due("RUNS of " + n + " VOTES", x.count(7), runs);
      // The DRAWS go on, also when it is settled what most tell.
      for (int i = 0; i < n; i++) seed = nextSeed(seed);
      due("a DRAW for each", x.count(9), seed);
    }
  }

  @Says(in = "Terms II", words = "what most tell")
  static void terms2_what_most_tell_at_half_and_one_more() {
    Subject x = of("x", bugsOf(50));
    for (int n : new int[] {1, 3, 5, 7, 9}) {
      x.votes(n);
      x.seed(seedWithTally(new int[] {n / 2, n - n / 2}, 50));
      due(n / 2 + " of " + n, x.verdict(), -1);
      x.seed(seedWithTally(new int[] {n / 2 + 1, n / 2}, 50));
      due(n / 2 + 1 + " of " + n, x.verdict(), 0);
    }
    x.bugs(bugsOf(40, 60));
    x.votes(9);
    x.seed(seedWithTally(new int[] {4, 5, 0}, 40, 60));
    due("the second, of most", x.verdict(), 1);
    x.seed(seedWithTally(new int[] {3, 2, 4}, 40, 60));
    due("NONE, of most", x.verdict(), -1);
  }

  @Says(in = "Terms II", words = "of like ones the least bug, NONE behind all bugs")
  static void terms2_of_like_ones_the_least_bug_and_none_last() {
    int[] odds = {30, 40, 50};
    Subject x = of("x", bugsOf(odds));
    int[][] tallies = {{1, 1, 1, 0}, {0, 1, 1, 1}, {1, 0, 1, 1}, {0, 0, 1, 2}, {2, 2, 1, 0}, {1, 2, 2, 0}, {0, 1, 2, 2},
        {2, 1, 0, 2}, {1, 1, 1, 2}, {2, 2, 2, 1}, {0, 3, 1, 3}, {3, 3, 0, 3}, {0, 0, 4, 5}, {1, 4, 4, 0}};
    int[] want = {0, 1, 0, -1, 0, 1, 2, 0, -1, 0, 1, 0, -1, 1};
    for (int i = 0; i < tallies.length; i++) {
      x.votes(Arrays.stream(tallies[i]).sum());
      x.seed(seedWithTally(tallies[i], odds));
      due("RUNS telling " + Arrays.toString(tallies[i]), x.verdict(), want[i]);
    }
  }

  @Says(in = "Terms II", words = "A TREE that was TRIED keeps its VERDICT: it has no RUNS again")
  static void terms2_a_tree_that_was_tried_has_no_runs_again() {
    Subject x = of("(seq x x)", bugsOf(50));
    int seed = seedWithTally(new int[] {1, 0}, 50);
    while (tally(seed, 2, 50)[0] != 1 || drawBehind(seed) >= 50) seed++;
    x.seed(seed);
    due("told", x.verdict(), 0);
    for (int i = 0; i < 5; i++) due("kept", x.verdict(), 0);
    due("RUNS", x.count(7), 1);
    due("TRIED", x.count(5), 1);
    due("asked again", x.count(6), 5);
    due("one DRAW", x.count(9), nextSeed(seed));
    // CUT of the first PART and of the second are one TREE; so are LEAST and both HOISTS.
    int again = 5;
    due("how many", x.single(-1, 0), 5);
    int first = x.tries(0);
    due("HOIST of NODE 1", x.tries(1), first);
    due("HOIST of NODE 2", x.tries(2), first);
    int cut = x.tries(3);
    due("CUT of NODE 2", x.tries(4), cut);
    due("TRIED", x.count(5), 3);
    due("RUNS", x.count(7), 3);
    due("asked again", x.count(6), again + 3);
    // The INPUT itself, when it has become one of them.
    x.change(3);
    due("the INPUT then", x.verdict(), cut);
    due("RUNS", x.count(7), 3);
  }

  @Says(in = "Terms II", words = "A TREE that was TRIED keeps its VERDICT")
  static void terms2_trees_with_one_row_of_names_are_not_one() {
    // The same NAMES in the same order: (seq x (seq) y), (seq x (seq y)), (seq (seq x y)) ..
    String test = "bug a odds 100 when next seq y=1;bug b odds 100 when under seq seq=1 and next x seq=1;bug c odds 100 when size=4;";
    Subject x = of("(seq x(seq)y)", test);
    due("(seq x (seq) y)", x.verdict(), 0);
    x = of("(seq x(seq(seq)y))", test);
    due("(seq x (seq (seq) y))", x.verdict(), 0);
    // HOIST of one, CUT of another: unlike TREES of 4 NODES within one object.
    x = of("(seq x(seq(seq)y)y)", "bug a odds 100 when size=6;bug b odds 100 when has y=1;bug c odds 100 when has y=2;");
    int n = x.single(-1, 0);
    for (int k = 0; k < n; k++) {
      int bits = x.single(k, 4);
      int want = (bits & 1) != 0 ? 0 : (bits & 2) != 0 ? 1 : (bits & 4) != 0 ? 2 : -1;
      due("tries(" + k + ")", x.tries(k), want);
    }
  }

  @Says(in = "Terms II", words = "A TREE that was TRIED keeps its VERDICT")
  static void terms2_trees_that_differ_in_one_node_are_not_one() {
    // CUTS of two NODES side by side leave TREES that differ in one NODE: all of them are unlike.
    StringBuilder input = new StringBuilder("(seq");
    for (int i = 0; i < 79; i++) input.append(' ').append((char) ('a' + i % 23));
    Subject x = Subject.of(TextBoundaries.leaves(23) + "form seq e:e*;", input + ")", "bug a odds 100 when size>0;");
    int many = x.single(-1, 0);
    for (int k = many - 79; k < many; k++) due("tries(" + k + ")", x.tries(k), 0);
    due("all are TRIED", x.count(5), 79);
    due("none again", x.count(6), 0);
    // The same NAMES in the same order, with other PARTS: (seq (seq x) y), (seq (seq x y)).
    x = of("(seq(seq x y)y)", "bug a odds 100 when deep=2 and next seq y=1 and size=4;bug b odds 100 when size=4;");
    many = x.single(-1, 0);
    due("CUT of the last NODE: (seq (seq x y))", x.tries(many - 1), 1);
    due("CUT of the one ahead: (seq (seq x) y)", x.tries(many - 2), 0);
    due("both are TRIED", x.count(5), 2);
  }

  @Says(in = "Terms II", words = "TRIED are forgotten by grammar(), input(), bugs(), votes(), seed() that are done, by undo()")
  static void terms2_tried_are_forgotten_by_acts_that_are_done() {
    String bugs = bugsOf(100);
    String[] acts = {"grammar()", "input()", "bugs()", "votes()", "seed()", "undo()"};
    for (int i = 0; i < acts.length; i++) {
      Subject x = of("(seq x y)", bugs);
      x.verdict();
      x.tries(0);
      due("TRIED", x.count(5), 2);
      if (i == 0) x.grammar(EXPRESSIONS);
      if (i == 1) x.input("(seq x y)");
      if (i == 2) x.bugs(bugs);
      if (i == 3) x.votes(1);
      if (i == 4) x.seed(1);
      if (i == 5) x.undo();
      due("TRIED behind " + acts[i], x.count(5), 0);
      due("trace() behind " + acts[i], x.trace(0, 0), -2);
      due("tried(NONE) behind " + acts[i], x.tried(-1), 0);
      if (i == 0) x.bugs(bugs);
      if (i == 0 || i == 5) x.input("(seq x y)");
      int runs = x.count(7);
      x.verdict();
      due("a RUN again behind " + acts[i], x.count(7), runs + 1);
    }
  }

  @Says(in = "Terms II", words = "that are done")
  static void terms2_tried_stay_by_calls_that_are_refused() {
    Subject x = of("(seq x y)", bugsOf(100));
    x.verdict();
    x.tries(2);
    String state = x.state();
    x.votes(2);
    x.votes(0);
    x.votes(11);
    x.seed(-1);
    x.change(-1);
    x.change(5);
    x.reduce(1, 0);
    x.reduce(0, 4);
    Due.due("the state", x.state(), state);
    x.grammar("leaf");
    due("TRIED behind grammar() with a FAULT", x.count(5), 2);
    x.input("(seq");
    due("TRIED behind input() with a FAULT", x.count(5), 2);
    x.bugs("bug");
    due("TRIED behind bugs() with a FAULT", x.count(5), 2);
    x.feed(0, 0, 0, 0, 0);
    x.end(0);
    x.change(3);
    due("TRIED behind change()", x.count(5), 2);
    due("reduce()", x.reduce(0, 1) >= 0, true);
    due("TRIED behind reduce()", x.count(5) >= 2, true);
    Due.dueTrace(x, 0, 3, 0, 0, -1);
  }

  private static void due(String call, boolean got, boolean want) {
    Due.due(call, got, want);
  }

  /**
   * A long INPUT with many unlike SINGLE changes, and BUGS so that each TREE TRIED has a VERDICT, that
   * of the INPUT (73 NODES, and some fewer) none of its changes has.
   */
  static Subject manyTrees() {
    StringBuilder input = new StringBuilder();
    for (int i = 0; i < 12; i++) {
      input.append("(seq");
      for (int j = 0; j < 5; j++) input.append(' ').append((char) ('a' + (i * 7 + j * (i % 3 + 1)) % 20));
    }
    input.append(" a").append(")".repeat(12));
    StringBuilder bugs = new StringBuilder();
    for (int i = 0; i < 5; i++) {
      bugs.append("bug ").append((char) ('a' + i)).append(" odds 100 when size=").append(73 - i).append(';');
    }
    bugs.append("bug z odds 100 when size>0;");
    return Subject.of(TextBoundaries.leaves(20) + "form seq e:e*;", input.toString(), bugs.toString());
  }

  /** Tries until exactly 600 are TRIED: the number of the next SINGLE change. */
  static int fill(Subject x) {
    for (int i = 0; i < 3; i++) {
      due("more()", x.more(), -1);
      x.change(x.single(-1, 0) - 1);
    }
    due("fewer than 600 so far", x.count(5) < 600, true);
    int k = 0;
    for (; x.count(5) < 600; k++) due("a VERDICT", x.tries(k) >= 0, true);
    return k;
  }

  @Says(in = "Terms II", words = "At most 600 are TRIED: a TREE beyond is not, and its VERDICT is NONE (it is OUT)")
  static void terms2_600_are_tried_and_those_beyond_are_out() {
    Subject x = manyTrees();
    int k = fill(x);
    due("TRIED", x.count(5), 600);
    due("RUNS", x.count(7), 600);
    due("OUT", x.count(8), 0);
    due("the 600th", x.trace(599, 1) >= 0, true);
    due("tried(NONE)", x.tried(-1), 0);
    due("again", x.tries(k - 1), x.trace(599, 1));
    due("OUT", x.count(8), 0);
    int seed = x.count(9);
    // Those that were TRIED keep their VERDICTS; the next unlike ones are OUT.
    int out = 0;
    int size = 0;
    while (out < 2) {
      int again = x.count(6);
      int verdict = x.tries(k);
      if (x.count(6) == again && x.single(k, 3) != size) {
        out++;
        size = x.single(k, 3);
        due("VERDICT of what is OUT", verdict, -1);
        due("OUT", x.count(8), out);
      } else if (x.count(6) > again) {
        due("a VERDICT that is kept", verdict >= 0, true);
      } else {
        break;
      }
      k++;
    }
    due("two were OUT", out, 2);
    due("TRIED", x.count(5), 600);
    due("no RUNS", x.count(7), 600);
    due("no DRAWS", x.count(9), seed);
    due("no 601st", x.trace(600, 0), -2);
    due("tried(NONE)", x.tried(-1), 0);
    x.votes(1);
    due("forgotten", x.count(5), 0);
    due("not OUT any more", x.tries(k - 1) >= 0, true);
    due("OUT so far", x.count(8), 2);
  }

  @Says(in = "Terms II", words = "its VERDICT is NONE (it is OUT)")
  static void terms2_an_input_that_is_out_is_not_reduced() {
    Subject x = manyTrees();
    int k = fill(x);
    int again = x.count(6);
    while (x.tries(k) >= 0) k++;
    due("TRIED before", x.count(6) >= again, true);
    x.change(k);
    int acts = x.count(10);
    due("verdict()", x.verdict(), -1);
    due("more()", x.more(), -3);
    due("reduce()", x.reduce(5, 3), -3);
    due("acts stay", x.count(10), acts);
    due("run()", x.run(1) >= 0, true);
    due("OUT", x.count(8) >= 2, true);
  }

  @Says(in = "Terms II", words = "a TREE beyond is not, and its VERDICT is NONE (it is OUT)")
  static void terms2_trees_that_are_out_are_not_taken() {
    Subject x = manyTrees();
    fill(x);
    // A HOIST to NODE 0 that was TRIED, of 64 NODES or fewer: its VERDICT is the sixth bug, as that of all below.
    int k = 1;
    while (x.single(k, 3) < 10 || x.tries(k) != 5) k++;
    due("a HOIST", x.single(k, 1), 2);
    int nodes = x.change(k);
    due("NODES", nodes < 69, true);
    int out = x.count(8);
    int acts = x.count(10);
    // (seq) has not been TRIED, nor any other TREE with NODES of LEVEL 1, 2 .. CUT.
    due("BY LEVELS", x.reduce(5, 0), 0);
    due("OUT", x.count(8) > out, true);
    due("TRIED", x.count(5), 600);
    due("RUNS", x.count(7), 600);
    due("an act, too", x.count(10), acts + 1);
    due("the INPUT stays", x.count(2), nodes);
    // LEAST of NODE 0, which was TRIED, is taken.
    due("BY CUTS", x.reduce(5, 2), 1);
    due("NODES", x.count(2), 1);
    x.undo();
    due("forgotten, none is OUT: BY LEVELS", x.reduce(5, 0), 1);
    Due.due("the INPUT", x.told(), "(seq)");
  }

  @Says(in = "Terms II", words = "A DRAW of m: x (the seed) becomes (1103515245 x + 12345) mod 2 to the 31")
  static void terms2_a_draw_wraps_around_at_2_to_the_31() {
    Subject x = of("x", bugsOf(50));
    for (int seed : new int[] {0, 1, 2, 63, 64, 1 << 16, 1 << 30, (1 << 30) + 1, MOST - 1, MOST, 1103515245}) {
      x.seed(seed);
      due("VERDICT by the seed " + seed, x.verdict(), drawBehind(seed) < 50 ? 0 : -1);
      due("the seed behind " + seed, x.count(9), nextSeed(seed));
    }
    x.seed(0);
    x.verdict();
    due("the seed behind 0", x.count(9), 12345);
  }

  @Says(in = "Terms II", words = "floor(x / 64) mod m")
  static void terms2_a_draw_is_of_the_higher_bits() {
    // Behind the seed 0 stands 12345: 192 times 64, and 57: a DRAW of 92.
    Subject x = of("x", bugsOf(92));
    due("odds 92", x.run(0), -1);
    x.bugs(bugsOf(93));
    due("odds 93", x.run(0), 0);
    for (int odds : new int[] {1, 37, 99}) {
      x.bugs(bugsOf(odds));
      for (int seed : new int[] {0, 12345, MOST}) {
        due("1000 RUNS by " + seed, x.often(0, seed, 1000), tally(seed, 1000, odds)[0]);
      }
    }
  }

  // ---- SINGLE changes

  /** Of each SINGLE change the NODE, its kind, j, how many NODES there are behind it. */
  static void dueSingles(Subject x, int[]... want) {
    due("how many", x.single(-1, 0), want.length);
    for (int k = 0; k < want.length; k++) {
      for (int what = 0; what < 4; what++) due("single(" + k + ", " + what + ")", x.single(k, what), want[k][what]);
    }
    due("behind the last", x.single(want.length, 0), -1);
  }

  @Says(in = "Terms II", words = "A SINGLE change of a TREE: at NODE k (none but these)")
  static void terms2_no_single_change_of_the_least_trees() {
    dueSingles(of("x", ""));
    dueSingles(of("y", ""));
    dueSingles(of("(seq)", ""));
    dueSingles(Subject.of(CHAINS, "(top(a(b d)))", ""));
    dueSingles(Subject.of("form f e:;leaf x e;", "(f)", ""));
  }

  @Says(in = "Terms II", words = "CUT: it goes with all in it, if it stands for a *")
  static void terms2_cut_of_what_stands_for_a_star_alone() {
    Subject x = Subject.of(CHAINS, "(top(a(b d))(wide c d c)(a(b c)))", "");
    dueSingles(x, new int[] {0, 1, -1, 4}, new int[] {4, 0, -1, 7}, new int[] {4, 1, -1, 10}, new int[] {8, 0, -1, 8});
    x.change(1);
    Due.due("the first of the * is CUT", x.told(), "(top (a (b d)) (a (b c)))");
    x.change(1);
    Due.due("the last of the * is CUT", x.told(), "(top (a (b d)))");
    due("NODES", x.count(2), 4);
    x = of("(seq x(seq x y)y)", "");
    int k = 0;
    while (x.single(k, 0) != 2 || x.single(k, 1) != 0) k++;
    due("CUT with all in it", x.change(k), 3);
    Due.due("what is left", x.told(), "(seq x y)");
    x = of("(seq x)", "");
    due("CUT of the only one", x.change(x.single(-1, 0) - 1), 1);
    Due.due("what is left", x.told(), "(seq)");
  }

  @Says(in = "Terms II", words = "LEAST: that of its SORT comes in its place, if that has fewer NODES")
  static void terms2_least_if_it_has_fewer_nodes() {
    // (a (b d)) has as many NODES as LEAST, (wide ..) one more.
    Subject x = Subject.of(CHAINS, "(top(wide d d d))", "");
    dueSingles(x, new int[] {0, 1, -1, 4}, new int[] {1, 1, -1, 4});
    x.change(1);
    Due.due("LEAST in its place", x.told(), "(top (a (b c)))");
    x.undo();
    x.change(0);
    Due.due("LEAST of the START", x.told(), "(top (a (b c)))");
    x = Subject.of("form f a:b b;leaf p b;form q b:p*;leaf r p;leaf s a;".replace("leaf s a;", ""), "(f p(q r))", "");
    // 0 f has 4 NODES, LEAST 3; 2 (q r) has 2, LEAST 1; r can be CUT.
    dueSingles(x, new int[] {0, 1, -1, 3}, new int[] {2, 1, -1, 3}, new int[] {3, 0, -1, 3});
    x.change(1);
    Due.due("LEAST is p", x.told(), "(f p p)");
    dueSingles(x);
  }

  @Says(in = "Terms II", words = "HOIST j: the TREE at NODE j, in it, of its SORT, comes in its place")
  static void terms2_hoist_of_what_is_in_it_and_of_its_sort() {
    String g = "form f a:b a*;form g b:a;leaf p a;leaf q b;";
    Subject x = Subject.of(g, "(f(g(f q))p)", "");
    dueSingles(x, new int[] {0, 1, -1, 1}, new int[] {0, 2, 2, 2}, new int[] {0, 2, 4, 1}, new int[] {1, 1, -1, 3},
        new int[] {1, 2, 3, 3}, new int[] {2, 1, -1, 4}, new int[] {4, 0, -1, 4});
    x.change(1);
    Due.due("HOIST of NODE 2", x.told(), "(f q)");
    x.undo();
    x.change(2);
    Due.due("HOIST of the last NODE", x.told(), "p");
    x.undo();
    x.change(4);
    Due.due("HOIST in a PART", x.told(), "(f q p)");
  }

  @Says(in = "Terms II", words = "They are numbered by k, of one k in this order, HOISTS by j")
  static void terms2_single_changes_are_numbered_in_order() {
    dueSingles(of("(seq(add x y))", ""), new int[] {0, 1, -1, 1}, new int[] {0, 2, 1, 3}, new int[] {0, 2, 2, 1},
        new int[] {0, 2, 3, 1}, new int[] {1, 0, -1, 1}, new int[] {1, 1, -1, 2}, new int[] {1, 2, 2, 2},
        new int[] {1, 2, 3, 2});
    Subject x = of("(seq" + " x".repeat(79) + ")", "");
    due("of 80 NODES", x.single(-1, 0), 159);
    due("the first HOIST", x.single(1, 2), 1);
    due("the last HOIST", x.single(79, 2), 79);
    due("the first CUT", x.single(80, 0), 1);
    due("the last CUT", x.single(158, 0), 79);
    due("NODES behind it", x.single(158, 3), 79);
    due("behind the last", x.single(159, 0), -1);
  }

  // ---- TO REDUCE

  @Says(in = "Terms II", words = "TO REDUCE the INPUT for a bug, which must be its VERDICT")
  static void terms2_reduced_for_the_inputs_verdict_alone() {
    Subject x = of("(seq x y)", "bug a odds 100 when has x>0;bug b odds 100 when has y>0;");
    due("both hold", x.holding(), 3);
    due("not its VERDICT", x.reduce(1, 3), -3);
    Due.due("the INPUT stays", x.told(), "(seq x y)");
    due("its VERDICT", x.reduce(0, 3), 2);
    Due.due("reduced", x.told(), "x");
    // TREES for which the bug holds, too, but another one is the VERDICT, are not taken.
    x = of("(seq x y)", "bug a odds 100 when size=1;bug b odds 100 when has y>0;");
    due("its VERDICT", x.reduce(1, 3), 1);
    Due.due("not y, which is of bug a", x.told(), "(seq y)");
  }

  @Says(in = "Terms II", words = "each time a TREE that is TRIED (or was) with that VERDICT is taken in place of what there was")
  static void terms2_a_tree_that_was_tried_is_taken_too() {
    Subject x = of("(seq x y)", "bug a odds 100 when has y>0;");
    due("y", x.tries(2), 0);
    due("BY HOISTS", x.reduce(0, 1), 1);
    Due.due("taken", x.told(), "y");
    Due.dueTraces(x, new int[] {1, 0, 6, 0}, new int[] {3, 0, 0, -1}, new int[] {1, -1, 4, 0});
    due("RUNS", x.count(7), 3);
    due("asked again", x.count(6), 1);
    // TRIED, by luck, without the bug: not taken, though the bug would SHOW now.
    x = of("(seq x y)", "bug a odds 50 when has y>0;");
    int seed = 0;
    while (drawBehind(seed) < 50 || drawBehind(nextSeed(seed)) >= 50) seed++;
    x.seed(seed);
    due("y, by luck", x.tries(2), -1);
    due("BY HOISTS", x.reduce(0, 1), 0);
    Due.due("not taken", x.told(), "(seq x y)");
  }

  @Says(in = "Terms II", words = "BY LEVELS: LEVEL by LEVEL, from 1 on, as long as there are NODES")
  static void terms2_by_levels_from_1_to_the_last() {
    Subject x = ofTest("(add x x)", "size>0");
    due("LEVEL 0 stays", x.reduce(0, 0), 0);
    Due.due("the INPUT", x.told(), "(add x x)");
    Due.dueTraces(x, new int[] {3, 0, 0, -1});
    x = ofTest("x", "size>0");
    due("no LEVEL 1", x.reduce(0, 0), 0);
    // LEVEL 12, the last, is reached.
    x = ofTest("(seq".repeat(12) + " x" + ")".repeat(12), "has seq>11");
    due("LEVEL 12", x.reduce(0, 0), 1);
    due("NODES", x.count(2), 12);
    due("TRIED", x.count(5), 13);
    for (int level = 1; level <= 12; level++) Due.dueTrace(x, level, level, level < 12 ? -1 : 0, 1, level);
  }

  @Says(in = "Terms II", words = "ROW are the NODES of that LEVEL that stand for a * (to be CUT), or whose LEAST has fewer NODES (to be LEAST), by numbers")
  static void terms2_a_row_is_cut_or_least() {
    // NODE 1 is to be LEAST; 5 and 9 are to be CUT, though 5 has more NODES than LEAST.
    Subject x = Subject.of(CHAINS, "(top(wide c c d)(wide c d d)(a(b d)))", "bug a odds 100 when has d>2;");
    due("row(1, NONE)", x.row(1, -1), 3);
    due("BY LEVELS", x.reduce(0, 0), 1);
    Due.due("the INPUT", x.told(), "(top (a (b c)) (wide c d d) (a (b d)))");
    Due.dueTraces(x, new int[] {12, 0, 0, -1}, new int[] {4, -1, 1, 1}, new int[] {5, -1, 2, 1}, new int[] {11, 0, 2, 1},
        new int[] {8, -1, 2, 1}, new int[] {7, -1, 2, 1});
    // A NODE of as many NODES as LEAST that stands for no * is in no ROW.
    x = Subject.of(CHAINS, "(top(a(b d))(a(b d)))", "bug a odds 100 when has d>0;");
    due("row(1, NONE)", x.row(1, -1), 1);
    due("row(1, 0)", x.row(1, 0), 4);
    due("BY LEVELS", x.reduce(0, 0), 1);
    Due.due("the INPUT", x.told(), "(top (a (b d)))");
  }

  @Says(in = "Terms II", words = "ROW are the NODES of that LEVEL")
  static void terms2_a_row_has_no_nodes_of_the_level_before() {
    // 80 NODES: the last one, of LEVEL 1, stays when LEVEL 2 is changed.
    Subject x = ofTest("(seq(seq x x)" + " x".repeat(75) + " y)", "size=80");
    due("BY LEVELS", x.reduce(0, 0), 0);
    int last = x.count(5) - 1;
    Due.dueTrace(x, last, 79, -1, 2, 2);
    Due.dueTrace(x, last - 1, 78, -1, 1, 2);
    x = ofTest("(seq(seq x x)" + " x".repeat(75) + " y)", "size=80 or size=79 and has y=1 and has seq=2 and next seq x=0");
    due("none of LEVEL 1", x.reduce(0, 0), 0);
  }

  @Says(in = "Terms II", words = "Without any on to the next one")
  static void terms2_a_level_without_a_row_tries_nothing() {
    Subject x = Subject.of(CHAINS, "(top(a(b d)))", "bug a odds 100 when size>0;");
    for (int level = 1; level <= 4; level++) due("row(" + level + ", NONE)", x.row(level, -1), 0);
    due("BY LEVELS", x.reduce(0, 0), 0);
    Due.dueTraces(x, new int[] {4, 0, 0, -1});
    due("asked again", x.count(6), 0);
  }

  @Says(in = "Terms II", words = "First the TREE with all of ROW changed: taken, on to the next LEVEL")
  static void terms2_all_of_a_row_is_tried_first() {
    Subject x = ofTest("(seq x(seq x y)(seq x x))", "size>0");
    due("BY LEVELS", x.reduce(0, 0), 1);
    Due.due("the INPUT", x.told(), "(seq)");
    Due.dueTraces(x, new int[] {8, 0, 0, -1}, new int[] {1, 0, 1, 1});
    due("asked again", x.count(6), 0);
    // Of LEVEL 1 nothing is taken, of LEVEL 2 all.
    x = ofTest("(seq(seq x x))", "has seq>1");
    due("BY LEVELS", x.reduce(0, 0), 1);
    Due.due("the INPUT", x.told(), "(seq (seq))");
    Due.dueTraces(x, new int[] {4, 0, 0, -1}, new int[] {1, -1, 1, 1}, new int[] {2, 0, 1, 2});
  }

  @Says(in = "Terms II", words = "n being 2 at first, as long as ROW has two or more")
  static void terms2_a_row_of_one_is_tried_once() {
    Subject x = ofTest("(seq y)", "has y>0");
    due("BY LEVELS", x.reduce(0, 0), 0);
    Due.dueTraces(x, new int[] {2, 0, 0, -1}, new int[] {1, -1, 1, 1});
    due("asked again", x.count(6), 0);
    x = ofTest("(seq x y)", "has y>0");
    due("BY LEVELS, a ROW of two", x.reduce(0, 0), 1);
    Due.dueTraces(x, new int[] {3, 0, 0, -1}, new int[] {1, -1, 1, 1}, new int[] {2, -1, 2, 1}, new int[] {2, 0, 2, 1});
    due("asked again", x.count(6), 0);
  }

  @Says(in = "Terms II", words = "PART i (0 .. n less 1) of ROW are those from floor(i times how many / n) to less than floor((i + 1) times how many / n)")
  static void terms2_parts_of_a_row_are_floors() {
    // Three in two: one, then two.
    Subject x = ofTest("(seq x y y)", "has y>1");
    due("BY LEVELS", x.reduce(0, 0), 1);
    Due.due("the INPUT", x.told(), "(seq y y)");
    Due.dueTraces(x, new int[] {4, 0, 0, -1}, new int[] {1, -1, 1, 1}, new int[] {2, -1, 2, 1}, new int[] {3, 0, 2, 1},
        new int[] {2, -1, 2, 1});
    due("asked again", x.count(6), 1);
    // Five in two: two, three; in four: one, one, one, two; in five.
    x = Subject.of(TextBoundaries.leaves(5) + "form seq e:e*;", "(seq a b c d e)", "bug a odds 100 when size=6;");
    due("BY LEVELS", x.reduce(0, 0), 0);
    int[] sizes = {6, 1, 3, 4, 2, 2, 2, 3, 5, 5, 5, 4, 2, 2, 5, 5};
    int[] reasons = {0, 1, 2, 2, 2, 2, 2, 2, 3, 3, 3, 3, 2, 2, 3, 3};
    due("TRIED", x.count(5), sizes.length);
    for (int k = 1; k < sizes.length; k++) Due.dueTrace(x, k, sizes[k], -1, reasons[k], 1);
    due("asked again", x.count(6), 6);
  }

  @Says(in = "Terms II", words = "For each i the TREE in which all of ROW but PART i are changed: taken, ROW is PART i, n 2, anew")
  static void terms2_a_part_alone_is_kept_and_n_is_2_anew() {
    // Of 16 a quarter is taken: its halves come next, then its quarters.
    Subject x = ofTest("(seq" + " x".repeat(16) + ")", "size=17 or size=5");
    due("BY LEVELS", x.reduce(0, 0), 1);
    due("NODES", x.count(2), 5);
    Due.dueTraces(x, new int[] {17, 0, 0, -1}, new int[] {1, -1, 1, 1}, new int[] {9, -1, 2, 1}, new int[] {5, 0, 2, 1},
        new int[] {3, -1, 2, 1}, new int[] {2, -1, 2, 1}, new int[] {4, -1, 3, 1});
    due("asked again", x.count(6), 1 + 1 + 3 + 3);
    // PART i, not all but it.
    x = Subject.of(TextBoundaries.leaves(4) + "form seq e:e*;", "(seq a b c d)", "bug a odds 100 when has c>0;");
    due("BY LEVELS", x.reduce(0, 0), 2);
    Due.due("the INPUT", x.told(), "(seq c)");
    Due.dueTraces(x, new int[] {5, 0, 0, -1}, new int[] {1, -1, 1, 1}, new int[] {3, -1, 2, 1}, new int[] {3, 0, 2, 1},
        new int[] {2, 0, 2, 1});
  }

  @Says(in = "Terms II", words = "Then, if n is above 2, for each i the TREE in which PART i is changed: taken, ROW is without it, n one less, anew")
  static void terms2_without_a_part_if_n_is_above_2() {
    Subject x = ofTest("(seq x y x y)", "has y>1");
    due("BY LEVELS", x.reduce(0, 0), 2);
    Due.due("the INPUT", x.told(), "(seq y y)");
    Due.dueTraces(x, new int[] {5, 0, 0, -1}, new int[] {1, -1, 1, 1}, new int[] {3, -1, 2, 1}, new int[] {2, -1, 2, 1},
        new int[] {2, -1, 2, 1}, new int[] {4, 0, 3, 1}, new int[] {3, 0, 3, 1});
    due("asked again", x.count(6), 9);
    // With n 2 what is left without a PART is the other PART: it is not asked for twice.
    x = ofTest("(seq x y)", "size=3");
    due("BY LEVELS", x.reduce(0, 0), 0);
    due("TRIED", x.count(5), 4);
    due("asked again", x.count(6), 0);
  }

  @Says(in = "Terms II", words = "Else, if n is less than ROW has, n is twice as much, no more than it has; else on to the next LEVEL")
  static void terms2_n_is_doubled_up_to_the_row() {
    Subject x = Subject.of(TextBoundaries.leaves(3) + "form seq e:e*;", "(seq a b c)", "bug a odds 100 when size=4;");
    due("BY LEVELS, 2 and 3", x.reduce(0, 0), 0);
    Due.dueTraces(x, new int[] {4, 0, 0, -1}, new int[] {1, -1, 1, 1}, new int[] {2, -1, 2, 1}, new int[] {3, -1, 2, 1},
        new int[] {2, -1, 2, 1}, new int[] {2, -1, 2, 1}, new int[] {3, -1, 3, 1}, new int[] {3, -1, 3, 1});
    due("asked again", x.count(6), 2);
    // 2, 4, 8: halves, quarters kept or gone, eighths kept or gone.
    x = ofTest("(seq" + " x".repeat(8) + ")", "size=9");
    due("BY LEVELS, 2, 4 and 8", x.reduce(0, 0), 0);
    Due.dueTraces(x, new int[] {9, 0, 0, -1}, new int[] {1, -1, 1, 1}, new int[] {5, -1, 2, 1}, new int[] {3, -1, 2, 1},
        new int[] {7, -1, 3, 1}, new int[] {2, -1, 2, 1}, new int[] {8, -1, 3, 1});
    due("asked again", x.count(6), 1 + 3 + 3 + 7 + 7);
    // 79 of them: 2, 4, 8, 16, 32, 64, 79.
    x = ofTest("(seq" + " x".repeat(79) + ")", "size=80");
    due("BY LEVELS, up to 79", x.reduce(0, 0), 0);
    int asked = 2 + 2;
    for (int n = 4; n <= 64; n *= 2) asked += 2 * n;
    due("all that were asked for", x.count(5) + x.count(6), asked + 2 * 79);
  }

  @Says(in = "Terms II", words = "(NODES of ROW that stay are the same ones, wherever they stand then.)")
  static void terms2_nodes_of_a_row_that_stay_are_the_same() {
    Subject x = ofTest("(seq(seq x x)y(seq y))", "has y>1");
    due("BY LEVELS", x.reduce(0, 0), 1);
    Due.due("the INPUT", x.told(), "(seq y (seq y))");
    Due.dueTraces(x, new int[] {7, 0, 0, -1}, new int[] {1, -1, 1, 1}, new int[] {4, -1, 2, 1}, new int[] {4, 0, 2, 1},
        new int[] {2, -1, 2, 1}, new int[] {3, -1, 2, 1}, new int[] {3, -1, 1, 2});
    // Those that are LEAST now are in ROW no longer, though they stand there.
    String tri = "leaf x e;leaf y e;form add e:e e;form tri e:e e e;";
    x = Subject.of(tri, "(tri(add x x)(add y x)(add x y))", "bug a odds 100 when has y>1;");
    due("BY LEVELS", x.reduce(0, 0), 1);
    Due.due("the INPUT", x.told(), "(tri x (add y x) (add x y))");
    Due.dueTraces(x, new int[] {10, 0, 0, -1}, new int[] {4, -1, 1, 1}, new int[] {6, -1, 2, 1}, new int[] {8, 0, 2, 1},
        new int[] {6, -1, 2, 1}, new int[] {6, -1, 2, 1});
  }

  @Says(in = "Terms II", words = "BY HOISTS: from NODE k = 0 on: of its HOISTS, by j, the first that is taken: k anew; else the next k")
  static void terms2_by_hoists_k_anew_or_the_next() {
    Subject x = ofTest("(add(add x y)y)", "has y>0");
    due("BY HOISTS, k anew", x.reduce(0, 1), 2);
    Due.due("the INPUT", x.told(), "y");
    Due.dueTraces(x, new int[] {5, 0, 0, -1}, new int[] {3, 0, 4, 0}, new int[] {1, -1, 4, 0}, new int[] {1, 0, 4, 0});
    x = ofTest("(add x(seq(seq y)x))", "has x>1 and has y>0");
    due("BY HOISTS, the next k", x.reduce(0, 1), 1);
    Due.due("the INPUT", x.told(), "(add x (seq y x))");
    Due.dueTraces(x, new int[] {6, 0, 0, -1}, new int[] {1, -1, 4, 0}, new int[] {4, -1, 4, 0}, new int[] {2, -1, 4, 0},
        new int[] {1, -1, 4, 0}, new int[] {4, -1, 4, 2}, new int[] {3, -1, 4, 2}, new int[] {3, -1, 4, 2},
        new int[] {5, 0, 4, 3});
    due("asked again", x.count(6), 1);
    x = ofTest("x", "size>0");
    due("BY HOISTS, of one NODE", x.reduce(0, 1), 0);
    due("TRIED", x.count(5), 1);
  }

  @Says(in = "Terms II", words = "BY CUTS: from NODE k = 0 on: CUT, if it can be, then LEAST, if it can be (a SINGLE change): the first that is taken: k anew; else the next k")
  static void terms2_by_cuts_cut_then_least_k_anew_or_the_next() {
    Subject x = ofTest("(seq x y(seq x))", "has y>0");
    due("BY CUTS", x.reduce(0, 2), 2);
    Due.due("the INPUT", x.told(), "(seq y)");
    Due.dueTraces(x, new int[] {5, 0, 0, -1}, new int[] {1, -1, 5, 0}, new int[] {4, 0, 5, 1}, new int[] {3, -1, 5, 1},
        new int[] {2, 0, 5, 2});
    x = ofTest("(seq(add x y))", "has seq>0 and size>1");
    due("BY CUTS, LEAST behind CUT", x.reduce(0, 2), 1);
    Due.due("the INPUT", x.told(), "(seq x)");
    Due.dueTraces(x, new int[] {4, 0, 0, -1}, new int[] {1, -1, 5, 0}, new int[] {1, -1, 5, 1}, new int[] {2, 0, 5, 1});
    due("asked again", x.count(6), 1);
    x = ofTest("(seq x x x)", "has seq>0");
    due("BY CUTS, k anew each time", x.reduce(0, 2), 3);
    Due.due("the INPUT", x.told(), "(seq)");
    x = ofTest("(add x(add y y))", "size>0");
    due("BY CUTS, LEAST of NODE 0", x.reduce(0, 2), 1);
    Due.due("the INPUT", x.told(), "x");
  }

  @Says(in = "Terms II", words = "ALL: LEVELS, HOISTS, CUTS, and so on till one such round takes nothing")
  static void terms2_all_goes_on_till_a_round_takes_nothing() {
    // The first round takes LEAST of (add y y), by CUTS; the second a HOIST; the third nothing.
    String test = "has add=1 and has seq=2 and size=6 or has x=2 and has seq>0";
    Subject x = ofTest("(seq(seq(add y y)x))", test);
    due("ALL", x.reduce(0, 3), 2);
    Due.due("the INPUT", x.told(), "(seq x x)");
    Due.dueTraces(x, new int[] {6, 0, 0, -1}, new int[] {1, -1, 1, 1}, new int[] {2, -1, 1, 2}, new int[] {5, -1, 2, 2},
        new int[] {3, -1, 2, 2}, new int[] {5, -1, 4, 0}, new int[] {3, -1, 4, 0}, new int[] {1, -1, 4, 0},
        new int[] {1, -1, 4, 0}, new int[] {4, -1, 4, 1}, new int[] {2, -1, 4, 1}, new int[] {2, -1, 4, 1},
        new int[] {4, -1, 4, 2}, new int[] {4, 0, 5, 2}, new int[] {3, 0, 4, 0});
    due("asked again", x.count(6), 26);
    due("LEVELS alone", ofTest("(seq(seq(add y y)x))", test).reduce(0, 0), 0);
    due("HOISTS alone", ofTest("(seq(seq(add y y)x))", test).reduce(0, 1), 0);
    due("CUTS alone, once", ofTest("(seq(seq(add y y)x))", test).reduce(0, 2), 1);
    x = ofTest("x", "size>0");
    due("ALL of one NODE", x.reduce(0, 3), 0);
    due("TRIED", x.count(5), 1);
  }

  // ---- III

  @Says(in = "Terms III", words = "SURE, of odds and RUNS: how likely more than half of so many RUNS show what has these odds alone")
  static void terms3_sure_of_no_odds_half_and_all() {
    Subject x = new Subject();
    for (int n : new int[] {1, 3, 5, 7, 9}) {
      due("sure(0, " + n + ")", x.sure(0, n), 0);
      due("sure(50, " + n + ")", x.sure(50, n), 500000);
      due("sure(100, " + n + ")", x.sure(100, n), 1000000);
    }
    due("sure(1, 1)", x.sure(1, 1), 10000);
    due("sure(99, 1)", x.sure(99, 1), 990000);
    due("sure(60, 3)", x.sure(60, 3), 648000);
    due("sure(60, 5)", x.sure(60, 5), 682560);
  }

  @Says(in = "Terms III", words = "in millionths, cut")
  static void terms3_sure_is_cut_not_rounded() {
    Subject x = new Subject();
    int[][] want = {{1, 5, 9}, {2, 5, 77}, {10, 9, 890}, {33, 9, 139775}, {55, 5, 593126}, {55, 7, 608287},
        {55, 9, 621420}, {99, 7, 999999}, {99, 9, 999999}, {1, 7, 0}, {1, 9, 0}, {60, 9, 733432}};
    for (int[] w : want) due("sure(" + w[0] + ", " + w[1] + ")", x.sure(w[0], w[1]), w[2]);
    for (int odds = 0; odds <= 100; odds++) {
      for (int n : new int[] {1, 3, 5, 7}) due("sure(" + odds + ", " + n + ")", x.sure(odds, n), sure(odds, n));
    }
    x = new Subject();
    for (int odds = 0; odds <= 100; odds++) due("sure(" + odds + ", 9)", x.sure(odds, 9), sure(odds, 9));
  }

  /** By one RUN after the other: how likely so many of them show, times 100 to the RUNS. */
  static int sure(int odds, int n) {
    BigInteger[] likely = new BigInteger[n + 2];
    Arrays.fill(likely, BigInteger.ZERO);
    likely[0] = BigInteger.ONE;
    for (int run = 0; run < n; run++) {
      for (int shown = run + 1; shown >= 0; shown--) {
        BigInteger less = shown == 0 ? BigInteger.ZERO : likely[shown - 1].multiply(BigInteger.valueOf(odds));
        likely[shown] = likely[shown].multiply(BigInteger.valueOf(100 - odds)).add(less);
      }
    }
    BigInteger sum = BigInteger.ZERO;
    for (int shown = 0; shown <= n; shown++) if (2 * shown > n) sum = sum.add(likely[shown]);
    return sum.multiply(BigInteger.valueOf(1000000)).divide(BigInteger.valueOf(100).pow(n)).intValueExact();
  }

  @Says(in = "Terms III", words = "THE TAPE goes by each text that is read, refused or not")
  static void terms3_the_tape_goes_by_each_text() {
    Subject x = new Subject();
    x.give("leaf x e;");
    due("input() without a GRAMMAR", x.input(), -3);
    dueNoTape(x, "input() without a GRAMMAR");
    x.give("leaf x e;");
    due("bugs() without a GRAMMAR", x.bugs(), -3);
    dueNoTape(x, "bugs() without a GRAMMAR");
    due("grammar() with a FAULT", x.grammar("leaf x e"), -1);
    dueNoTape(x, "grammar() with a FAULT");
    due("grammar()", x.grammar("leaf x e;"), 1);
    dueNoTape(x, "grammar()");
    due("input() with a FAULT", x.input("x x"), -1);
    dueNoTape(x, "input() with a FAULT");
    due("input()", x.input("x"), 1);
    dueNoTape(x, "input()");
    due("bugs() with a FAULT", x.bugs("bug"), -1);
    dueNoTape(x, "bugs() with a FAULT");
    due("bugs()", x.bugs(bugsOf(1)), 1);
    dueNoTape(x, "bugs()");
    // No other call takes it.
    x.give("y");
    x.verdict();
    x.reduce(0, 0);
    x.undo();
    x.seed(1);
    x.votes(1);
    due("the tape stays", x.end(1), true);
    due("and goes on", x.feed(0, 0, 0, 0, 0), 21);
  }

  private static void dueNoTape(Subject x, String behind) {
    due("end(1) behind " + behind, x.end(1), false);
    due("end(0) behind " + behind, x.end(0), true);
    due("feed() behind " + behind, x.feed(0, 0, 0, 0, 0), 20);
    x.end(0);
  }

  @Says(in = "Terms III", words = "-2 answers what can't be by its numbers, -3 by what stands; -1 is none")
  static void terms3_what_cannot_be_by_numbers_is_ahead_of_what_stands() {
    Subject x = new Subject();
    due("apart(0, 1)", x.apart(0, 1), -2);
    due("reduce(0, 0)", x.reduce(0, 0), -2);
    due("often(0, 1, 1)", x.often(0, 1, 1), -2);
    due("often(NONE, 1, 1)", x.often(-1, 1, 1), -3);
    due("more()", x.more(), -3);
    due("undo()", x.undo(), -3);
    due("verdict()", x.verdict(), -1);
    x = of("", bugsOf(100, 100));
    due("apart(0, 0)", x.apart(0, 0), -2);
    due("apart(0, 2)", x.apart(0, 2), -2);
    due("apart(0, 1)", x.apart(0, 1), -3);
    due("reduce(2, 0)", x.reduce(2, 0), -2);
    due("reduce(0, 4)", x.reduce(0, 4), -2);
    due("reduce(0, 0)", x.reduce(0, 0), -3);
    due("often(2, 1, 1)", x.often(2, 1, 1), -2);
    due("often(0, 1, 0)", x.often(0, 1, 0), -2);
    due("often(0, 1, 1)", x.often(0, 1, 1), -3);
  }
}
