/** Boundary cases of the document's terms I: texts, GRAMMARS, TREES, INPUTS, BUGS. */
final class TextBoundaries {
  static final String EXPRESSIONS = "leaf x e;leaf y e;form add e:e e;form seq e:e*;";
  /** LEAST of t is (top (a (b c))): wide has one NODE more than LEAST of its SORT, but is less deep. */
  static final String CHAINS = "form top t:a a*;form a a:b;form b b:c;leaf c c;form wide a:c c c;leaf d c;";
  static final String[] OWN_WORDS =
      {"form", "leaf", "bug", "odds", "when", "or", "and", "not", "size", "deep", "has", "under", "next"};

  private TextBoundaries() {}

  /** LINES of leaves a, b, c .. of SORT e: nine bytes each. */
  static String leaves(int many) {
    StringBuilder b = new StringBuilder();
    for (int i = 0; i < many; i++) b.append("leaf ").append((char) ('a' + i)).append(" e;");
    return b.toString();
  }

  /** BUGS a, b, c ..: 25 bytes each. */
  static String bugs(int many) {
    StringBuilder b = new StringBuilder();
    for (int i = 0; i < many; i++) b.append("bug ").append((char) ('a' + i)).append(" odds 1 when size>0;");
    return b.toString();
  }

  /** A text of one bug whose TEST begins at byte 18. */
  static String bug(String test) {
    return "bug a odds 1 when " + test + ";";
  }

  /** Whether the TEST holds for the INPUT. */
  private static void holds(String input, String test, boolean want) {
    due(test + " of " + input, Subject.of(EXPRESSIONS, input, bug(test)).holding(), want ? 1 : 0);
  }

  private static void due(String call, long got, long want) {
    Due.due(call, got, want);
  }

  // ---- WORDS, numbers, signs, blanks

  @Says(in = "Terms I", words = "WORDS of letters a .. z, numbers, signs")
  static void terms1_words_are_of_letters_a_to_z() {
    Due.goodGrammar("leaf azazaz zazaza;", 1);
    for (String beside : new String[] {"`", "{", "A", "Z", "@", "[", "0", "_", "\u00e1", "\u0000", "\u007f", "\u00ff"}) {
      Due.badGrammar("leaf " + beside + " e;", 1, 5);
      Due.badGrammar("leaf x " + beside + ";", 1, 7);
      Due.badGrammar("leaf x e" + beside + ";", 1, 8);
      Due.badInput("leaf x e;", beside, 1, 0);
      Due.badInput("leaf x e;", "x" + beside, 1, 1);
    }
  }

  @Says(in = "Terms I", words = "blanks (10, 32) are where one likes")
  static void terms1_blanks_are_where_one_likes() {
    Due.goodGrammar("leaf x e;form f e:e e*;", 2);
    Due.goodGrammar("\n \nleaf\n\nx  e\n;\n form f\ne :\ne e\n* ; \n", 2);
    Due.goodInput(EXPRESSIONS, "(seq x(add x y)y)", 6);
    Due.goodInput(EXPRESSIONS, " \n ( seq\nx (\nadd x\n\ny ) y ) \n", 6);
    Due.goodBugs(EXPRESSIONS, "bug a odds 1 when[size>0]or not[has x<1];", 1);
    Due.goodBugs(EXPRESSIONS, " bug\na odds\n1\nwhen [ size\n>\n0 ]\nor\nnot [ has\nx <\n1 ]\n;\n\n", 1);
  }

  @Says(in = "Terms I", words = "blanks (10, 32)")
  static void terms1_no_other_byte_is_a_blank() {
    for (int b = 0; b < 256; b++) {
      if (b == 10 || b == 32) continue;
      // A letter goes on with the WORD, all else can't stand behind it.
      boolean letter = b >= 'a' && b <= 'z';
      Due.badGrammar("leaf" + (char) b + "x e;", 1, letter ? 0 : 4);
    }
  }

  @Says(in = "Terms I", words = "WORDS and numbers side by side need one, else it is FAULT 1 at the second's first byte")
  static void terms1_words_and_numbers_side_by_side_need_a_blank() {
    Due.badBugs(EXPRESSIONS, "bug a odds5 when size>0;", 1, 10);
    Due.goodBugs(EXPRESSIONS, "bug a odds 5 when size>0;", 1);
    Due.badBugs(EXPRESSIONS, "bug a odds 5when size>0;", 1, 12);
    Due.goodBugs(EXPRESSIONS, "bug a odds 5\nwhen size>0;", 1);
    Due.badBugs(EXPRESSIONS, bug("size>0or size>1"), 1, 24);
    Due.goodBugs(EXPRESSIONS, bug("size>0 or size>1"), 1);
    Due.badBugs(EXPRESSIONS, bug("size>10and size>1"), 1, 25);
    Due.badGrammar("leaf x1 e;", 1, 6);
    Due.badInput(EXPRESSIONS, "x1", 1, 1);
    Due.badInput(EXPRESSIONS, "(seq x1)", 1, 6);
    Due.badInput(EXPRESSIONS, "(seq xx)", 3, 5);
  }

  @Says(in = "Terms I", words = "NAMES: 1 to 6 letters")
  static void terms1_names_have_1_to_6_letters() {
    Due.badGrammar("leaf ;", 1, 5);
    Due.goodGrammar("leaf a b;", 1);
    Due.goodGrammar("leaf abcdef ghijkl;form mnopqr ghijkl:ghijkl*;", 2);
    Due.badGrammar("leaf abcdefg e;", 1, 5);
    Due.badGrammar("leaf x abcdefg;", 1, 7);
    Due.badGrammar("form abcdefg e:;", 1, 5);
    Due.badGrammar("form f abcdefg:;", 1, 7);
    Due.badGrammar("leaf x e;form f e:abcdefg*;", 1, 18);
    Due.badGrammar("leaf x e;form f e:e abcdefg;", 1, 20);
    Due.badGrammar("leaf " + "a".repeat(900) + " e;", 1, 5);
    String six = "leaf abcdef e;form seqseq e:e*;";
    Due.goodInput(six, "(seqseq abcdef)", 2);
    Due.badInput(six, "(seqseq abcdefg)", 1, 8);
    Due.badInput(six, "(seqseqs abcdef)", 1, 1);
    Due.goodBugs(six, "bug qwerty odds 1 when under seqseq abcdef>0;", 1);
    Due.badBugs(six, "bug qwertyu odds 1 when size>0;", 1, 4);
    Due.badBugs(six, bug("has abcdefg>0"), 1, 22);
    Due.badBugs(six, bug("under seqseqs abcdef>0"), 1, 24);
    Due.badBugs(six, bug("next seqseq abcdefg>0"), 1, 30);
    // All six letters tell NAMES apart, and so does how many there are.
    Due.goodGrammar("leaf abcdef e;leaf abcdeg e;leaf bbcdef e;leaf abcde e;leaf a e;leaf aa e;", 6);
  }

  @Says(in = "Terms I", words = "no OWN WORD: form, leaf, bug, odds, when, or, and, not, size, deep, has, under, next")
  static void terms1_names_are_no_own_word() {
    for (String own : OWN_WORDS) {
      Due.badGrammar("leaf " + own + " e;", 1, 5);
      Due.badGrammar("form " + own + " e:;", 1, 5);
      Due.badGrammar("leaf x " + own + ";", 1, 7);
      Due.badGrammar("leaf x e;form f e:" + own + ";", 1, 18);
      Due.badGrammar("leaf x e;form f e:e " + own + "*;", 1, 20);
      Due.badInput(EXPRESSIONS, own, 1, 0);
      Due.badInput(EXPRESSIONS, "(" + own + ")", 1, 1);
      Due.badBugs(EXPRESSIONS, "bug " + own + " odds 1 when size>0;", 1, 4);
      Due.badBugs(EXPRESSIONS, bug("has " + own + ">0"), 1, 22);
      Due.badBugs(EXPRESSIONS, bug("next x " + own + ">0"), 1, 25);
    }
  }

  @Says(in = "Terms I", words = "form, leaf, bug, odds, when, or, and, not, size, deep, has, under, next.")
  static void terms1_words_beside_own_words_are_names() {
    for (String own : OWN_WORDS) {
      for (String beside : new String[] {own + "s", own.substring(0, own.length() - 1), own.substring(1), "a" + own}) {
        Due.goodGrammar("leaf " + beside + " " + beside + ";", 1);
        Due.goodInput("leaf " + beside + " e;", beside, 1);
        Due.goodBugs(EXPRESSIONS, "bug " + beside + " odds 1 when size>0;", 1);
      }
    }
    // Words of the document that a text does not have.
    for (String word : new String[] {"tree", "least", "sort", "line", "count", "cut", "hoist", "node", "test", "both", "fact"}) {
      Due.goodGrammar("leaf " + word + " e;", 1);
    }
  }

  @Says(in = "Terms I", words = "N: 1 to 3 digits")
  static void terms1_numbers_have_1_to_3_digits() {
    for (String n : new String[] {"0", "9", "00", "99", "000", "999", "008"}) Due.goodBugs(EXPRESSIONS, bug("size>" + n), 1);
    for (String n : new String[] {"", "/", ":", "-1", "+1", "x"}) Due.badBugs(EXPRESSIONS, bug("size>" + n), 1, 23);
    for (String n : new String[] {"0000", "1000", "0001", "9999999999", "4294967297"}) {
      Due.badBugs(EXPRESSIONS, bug("size>" + n), 1, 23);
      Due.badBugs(EXPRESSIONS, "bug a odds " + n + " when size>0;", 1, 11);
    }
    Due.goodBugs(EXPRESSIONS, "bug a odds 001 when size>0;bug b odds 01 when size>0;bug c odds 1 when size>0;", 3);
    holds("(seq x)", "size=2 and size=02 and size=002", true);
    holds("(seq x)", "size<999", true);
    holds("(seq x)", "size>000", true);
    holds("(seq" + " x".repeat(9) + ")", "size=010", true);
  }

  // ---- a GRAMMAR

  @Says(in = "Terms I", words = "A GRAMMAR is a text: LINE ; { LINE ; }")
  static void terms1_a_grammar_has_one_line_or_more() {
    Due.badGrammar("", 1, 0);
    Due.badGrammar(" \n ", 1, 3);
    Due.badGrammar(";", 1, 0);
    Due.goodGrammar("leaf x e;", 1);
    Due.badGrammar("leaf x e", 1, 8);
    Due.badGrammar("leaf x e;;", 1, 9);
    Due.badGrammar("leaf x e;leaf y e", 1, 17);
    Due.badGrammar("leaf x e leaf y e;", 1, 9);
    Due.goodGrammar("leaf x e;leaf y e;", 2);
  }

  @Says(in = "Terms I", words = "leaf NAME SORT | form NAME SORT : { SORT } [ SORT * ]")
  static void terms1_a_line_is_a_leaf_or_a_form() {
    Due.badGrammar("lea x e;", 1, 0);
    Due.badGrammar("bug x e;", 1, 0);
    Due.badGrammar("x e;", 1, 0);
    Due.badGrammar("leaf x;", 1, 6);
    Due.badGrammar("leaf x e e;", 1, 9);
    Due.badGrammar("leaf x e:;", 1, 8);
    Due.badGrammar("leaf x e*;", 1, 8);
    Due.badGrammar("form f e;", 1, 8);
    Due.badGrammar("form f e e;", 1, 9);
    Due.badGrammar("form f:e;", 1, 6);
    Due.badGrammar("form f e::;", 1, 9);
  }

  @Says(in = "Terms I", words = "form NAME SORT : { SORT } [ SORT * ]")
  static void terms1_behind_the_colon_may_be_none_and_a_star_last() {
    Subject x = new Subject();
    due("none behind the :", x.grammar("form f e:;"), 1);
    due("how many", x.line(0, 2), 0);
    due("a *", x.line(0, 3), 0);
    due("a * alone", x.grammar("form f e:e*;"), 1);
    due("how many", x.line(0, 2), 1);
    due("a *", x.line(0, 3), 1);
    due("SORTS without a *", x.grammar("leaf x e;form f e:e e;"), 2);
    due("a *", x.line(1, 3), 0);
    Due.badGrammar("form f e:*;", 1, 9);
    Due.badGrammar("leaf x e;form f e:e**;", 1, 20);
    Due.badGrammar("leaf x e;form f e:e* e;", 1, 21);
    Due.badGrammar("leaf x e;form f e:e* e*;", 1, 21);
  }

  @Says(in = "Terms I", words = "SORT: a NAME (those of SORTS may be those of others, too)")
  static void terms1_sorts_may_be_named_as_others() {
    Subject x = new Subject();
    due("SORTS as leaves and forms", x.grammar("leaf x x;form y x:y y*;form z y:;"), 3);
    due("SORTS", x.count(1), 2);
    due("an INPUT", x.input("(y(z)(z))"), 3);
    due("a bug named as a SORT", x.bugs("bug x odds 1 when has x>0;bug y odds 1 when has y>0;"), 2);
    due("holding()", x.holding(), 2);
  }

  @Says(in = "Terms I", words = "NAMES behind leaf, form are unlike ones")
  static void terms1_names_behind_leaf_and_form_are_unlike() {
    Due.badGrammar("leaf x e;leaf x e;", 3, 14);
    Due.badGrammar("leaf x e;leaf x s;", 3, 14);
    Due.badGrammar("leaf x e;form x e:;", 3, 14);
    Due.badGrammar("form x e:;leaf x e;", 3, 15);
    Due.badGrammar("form x e:;form x e:;", 3, 15);
    Due.badGrammar("leaf abcdef e;leaf abcdef e;", 3, 19);
    Due.badGrammar(leaves(23) + "leaf a e;", 3, 212);
    Due.badGrammar(leaves(23) + "leaf w e;", 3, 212);
    Due.goodGrammar(leaves(23) + "leaf x e;", 24);
  }

  @Says(in = "Terms I", words = "each is of the SORT behind it")
  static void terms1_each_name_is_of_the_sort_behind_it() {
    Subject x = Subject.of("form f a:b;leaf p b;leaf q a;", "", "");
    due("SORT of f", x.line(0, 1), 0);
    due("SORT of p", x.line(1, 1), 1);
    due("SORT of q", x.line(2, 1), 0);
    due("(f p)", x.input("(f p)"), 2);
    due("SORT of NODE 1", x.node(1, 1), 1);
    due("(f q)", x.input("(f q)"), -1);
    due("q", x.input("q"), 1);
  }

  @Says(in = "Terms I", words = "At most 24 LINES")
  static void terms1_at_most_24_lines() {
    Due.goodGrammar(leaves(23), 23);
    Due.goodGrammar(leaves(24), 24);
    Due.badGrammar(leaves(25), 4, 216);
    Due.badGrammar(leaves(26), 4, 216);
    Due.goodGrammar(leaves(24) + " \n", 24);
    Subject x = Subject.of(leaves(23) + "form seq e:e*;", "", "");
    due("letter of the 24th", x.letter(0, 23, 0), 19);
    due("no 25th", x.letter(0, 24, 0), -1);
  }

  @Says(in = "Terms I", words = "6 SORTS")
  static void terms1_at_most_6_sorts() {
    String five = "leaf a a;leaf b b;leaf c c;leaf d d;leaf e e;";
    Due.goodGrammar(five, 5);
    Due.goodGrammar(five + "leaf f f;", 6);
    Due.badGrammar(five + "leaf f f;leaf g g;", 4, 61);
    Due.badGrammar(five + "leaf f f;form h a:g;", 4, 63);
    Due.badGrammar(five + "leaf f f;form h a:a g*;", 4, 65);
    Due.goodGrammar(five + "leaf f f;form h f:a b c d*;form g a:e f;", 8);
    Due.goodGrammar("form f a:b c d e*;form g f:a;leaf b b;leaf c c;leaf d d;leaf e e;leaf a a;", 7);
  }

  @Says(in = "Terms I", words = "4 SORTS behind a : (with that of the *)")
  static void terms1_at_most_4_sorts_behind_a_colon() {
    Subject x = new Subject();
    due("four", x.grammar("leaf x e;form f e:e e e e;"), 2);
    due("line(1, 2)", x.line(1, 2), 4);
    due("line(1, 13)", x.line(1, 13), 0);
    due("four with a *", x.grammar("leaf x e;form f e:e e e e*;"), 2);
    due("line(1, 2)", x.line(1, 2), 4);
    due("line(1, 3)", x.line(1, 3), 1);
    Due.badGrammar("leaf x e;form f e:e e e e e;", 4, 26);
    Due.badGrammar("leaf x e;form f e:e e e e e*;", 4, 26);
    Due.badGrammar("leaf x e;form f e:e e e e q;", 4, 26);
    Due.badGrammar("leaf x e;form f e:e e e e* e;", 1, 27);
  }

  @Says(in = "Terms I", words = "The first LINE's SORT is the START")
  static void terms1_the_first_lines_sort_is_the_start() {
    String g = "form r p:q;leaf l q;leaf k p;";
    Due.goodInput(g, "(r l)", 2);
    Due.goodInput(g, "k", 1);
    Due.badInput(g, "l", 5, 0);
    Due.goodInput("leaf l q;form r p:q;", "l", 1);
    Due.badInput("leaf l q;form r p:q;", "(r l)", 5, 1);
  }

  @Says(in = "Terms I", words = "SORTS are numbered as they stand first, NAMES by LINES")
  static void terms1_sorts_are_numbered_as_they_stand_first() {
    Subject x = Subject.of("form f b:c a;leaf q a;leaf p d;leaf r c;", "", "");
    String[] sorts = {"b", "c", "a", "d"};
    // b has no TREE but for f's, whose PARTS are r and q.
    for (int i = 0; i < 4; i++) Due.due("SORT " + i, x.name(1, i), sorts[i]);
    String[] names = {"f", "q", "p", "r"};
    for (int i = 0; i < 4; i++) Due.due("NAME " + i, x.name(0, i), names[i]);
    due("SORT of q", x.line(1, 1), 2);
    due("SORT of r", x.line(3, 1), 1);
    due("no fifth SORT", x.letter(1, 4, 0), -1);
  }

  // ---- a TREE, LEAST

  @Says(in = "Terms I", words = "TREE: of a leaf its NAME; of a form ( NAME { TREE } )")
  static void terms1_a_tree_is_a_leaf_or_a_form_in_brackets() {
    String g = "form f e:;leaf x e;form g e:e;";
    Due.goodInput(g, "x", 1);
    Due.badInput(g, "(x)", 5, 1);
    Due.goodInput(g, "(f)", 1);
    Due.badInput(g, "f", 5, 0);
    Due.goodInput(g, "(g(f))", 2);
    Due.badInput(g, "(g f)", 5, 3);
    Due.badInput(g, "()", 1, 1);
    Due.badInput(g, "((f))", 1, 1);
    Due.badInput(g, "(f", 1, 2);
  }

  @Says(in = "Terms I", words = "its PARTS are of the SORTS behind its :, in order")
  static void terms1_parts_are_of_the_sorts_behind_the_colon_in_order() {
    String g = "form f a:b c a*;leaf p b;leaf q c;";
    Due.goodInput(g, "(f p q)", 3);
    Due.badInput(g, "(f q p)", 5, 3);
    Due.badInput(g, "(f p p)", 5, 5);
    Due.badInput(g, "(f p)", 5, 4);
    Due.badInput(g, "(f)", 5, 2);
    Due.badInput(g, "(f p q q)", 5, 7);
    Due.goodInput(g, "(f p q(f p q))", 6);
  }

  @Says(in = "Terms I", words = "of that with the * any number, or none")
  static void terms1_parts_for_a_star_are_any_number_or_none() {
    Due.goodInput(EXPRESSIONS, "(seq)", 1);
    Due.goodInput(EXPRESSIONS, "(seq x)", 2);
    Due.goodInput(EXPRESSIONS, "(seq" + " x".repeat(79) + ")", 80);
    String one = "leaf x e;form f e:e e*;";
    Due.badInput(one, "(f)", 5, 2);
    Due.goodInput(one, "(f x)", 2);
    Due.goodInput(one, "(f x x)", 3);
    Due.goodInput(one, "(f" + " x".repeat(79) + ")", 80);
  }

  @Says(in = "Terms I", words = "LEAST is of a SORT the TREE with the fewest NODES")
  static void terms1_least_has_the_fewest_nodes() {
    Subject x = Subject.of(CHAINS, "", "");
    // (a (b c)) has 3 NODES, (wide c c c) 4.
    due("LEAST of a", x.least(1, -1), 3);
    due("its NAME", x.least(1, 0), 1);
    x = Subject.of("form two e:s s;form one e:t;leaf s s;form t t:u;form u u:s;form uu u:s s;", "", "");
    // (two s s) has 3 NODES, (one (t (u s))) 4.
    due("LEAST of e", x.least(0, -1), 3);
    due("its NAME", x.least(0, 0), 0);
    // A LEAST that goes through all six SORTS, told from the last to the first.
    x = Subject.of("form f a:b;form g b:c;form h c:d;form i d:e;form j e:k;leaf l k;", "", "");
    due("through six SORTS", x.least(0, -1), 6);
    due("the last NODE", x.least(0, 5), 5);
    // The largest: 1 + 4 + 16 + 64 + 256 + 1024 NODES.
    x = Subject.of("form f a:b b b b;form g b:c c c c;form h c:d d d d;form i d:e e e e;form j e:k k k k;leaf l k;", "", "");
    due("the largest", x.least(0, -1), 1365);
    due("its last NODE", x.least(0, 1364), 5);
    due("its second PART", x.least(0, 342), 1);
    due("behind it", x.least(0, 1365), -1);
  }

  @Says(in = "Terms I", words = "of like ones the one whose NAME is told first")
  static void terms1_of_like_leasts_the_name_told_first() {
    due("two leaves", Subject.of("leaf x e;leaf y e;", "", "").least(0, 0), 0);
    due("a form ahead of a leaf", Subject.of("form f e:;leaf y e;", "", "").least(0, 0), 0);
    due("a leaf ahead of a form", Subject.of("leaf y e;form f e:e*;", "", "").least(0, 0), 0);
    // Both f and g have two NODES; f's PART is told behind g's.
    Subject x = Subject.of("form f a:b;form g a:c;leaf c c;leaf b b;", "", "");
    due("told first, its PART last", x.least(0, 0), 0);
    due("its PART", x.least(0, 1), 3);
    // f is known to have 3 NODES behind g with 3, too.
    x = Subject.of("form f a:b;form g a:c c;leaf c c;form d b:c;", "", "");
    due("told first, known last", x.least(0, 0), 0);
    x = Subject.of("form f a:b b;form g a:c;leaf c c;leaf b b;", "", "");
    due("told first, but of more NODES", x.least(0, 0), 1);
  }

  @Says(in = "Terms I", words = "all its PARTS LEAST, none for a *")
  static void terms1_parts_of_least_are_least_and_none_for_a_star() {
    Subject x = Subject.of("form r c:a*;leaf c c;leaf a a;", "", "");
    due("none for a *", x.least(0, -1), 1);
    due("its NAME", x.least(0, 0), 0);
    x = Subject.of("form r r:s t*;form big s:t t;form mid s:t;leaf t t;", "", "");
    due("NODES", x.least(0, -1), 3);
    due("its PART", x.least(0, 1), 2);
    due("its PART's PART", x.least(0, 2), 3);
  }

  // ---- an INPUT

  @Says(in = "Terms I", words = "AN INPUT is a text: one TREE of the START")
  static void terms1_an_input_is_one_tree() {
    Due.badInput(EXPRESSIONS, "", 1, 0);
    Due.badInput(EXPRESSIONS, " \n", 1, 2);
    Due.goodInput(EXPRESSIONS, "x", 1);
    Due.badInput(EXPRESSIONS, "x y", 1, 2);
    Due.badInput(EXPRESSIONS, "x(seq)", 1, 1);
    Due.badInput(EXPRESSIONS, "(seq)x", 1, 5);
    Due.badInput(EXPRESSIONS, "(seq))", 1, 5);
    Due.badInput(EXPRESSIONS, "x;", 1, 1);
  }

  @Says(in = "Terms I", words = "80 NODES at most")
  static void terms1_an_input_has_80_nodes_at_most() {
    Due.goodInput(EXPRESSIONS, "(seq" + " x".repeat(78) + ")", 79);
    Due.goodInput(EXPRESSIONS, "(seq" + " x".repeat(79) + ")", 80);
    Due.badInput(EXPRESSIONS, "(seq" + " x".repeat(80) + ")", 4, 163);
    Due.goodInput(EXPRESSIONS, "(seq" + " (seq)".repeat(79) + ")", 80);
    Subject x = Subject.of(EXPRESSIONS, "(seq" + " x".repeat(78) + " y)", "");
    due("the 80th NODE", x.node(79, 0), 1);
    due("no 81st", x.node(80, 0), -2);
    due("NODES in NODE 0", x.node(0, 3), 80);
    due("PARTS of NODE 0", x.node(0, 4), 79);
    due("the 80th is PART 78", x.node(79, 6), 78);
  }

  @Says(in = "Terms I", words = "( at most 12 open at once")
  static void terms1_12_brackets_open_at_most() {
    Due.goodInput(EXPRESSIONS, "(seq".repeat(12) + ")".repeat(12), 12);
    Due.goodInput(EXPRESSIONS, "(seq".repeat(12) + " x" + ")".repeat(12), 13);
    Due.badInput(EXPRESSIONS, "(seq".repeat(13) + ")".repeat(13), 4, 48);
    // Those that are closed do not count.
    Due.goodInput(EXPRESSIONS, "(seq" + "(seq)".repeat(40) + ")", 41);
    Due.goodInput(EXPRESSIONS, "(seq".repeat(12) + ")(seq)(seq)" + ")".repeat(11), 14);
    Due.badInput(EXPRESSIONS, "(seq".repeat(12) + ")(seq(seq" + ")".repeat(13), 4, 53);
  }

  @Says(in = "Terms I", words = "NODES are numbered from 0 on as they begin")
  static void terms1_nodes_are_numbered_as_they_begin() {
    Subject x = Subject.of(EXPRESSIONS, "(seq(add x y)(seq)y)", "");
    int[] names = {3, 2, 0, 1, 3, 1};
    for (int i = 0; i < names.length; i++) due("NAME of NODE " + i, x.node(i, 0), names[i]);
    due("no NODE -1", x.node(-1, 0), -2);
    due("no NODE 6", x.node(6, 0), -2);
  }

  @Says(in = "Terms I", words = "LEVEL: 0 that of NODE 0, of a PART one more")
  static void terms1_level_0_is_that_of_node_0() {
    Subject x = Subject.of(EXPRESSIONS, "(seq(add x y)(seq)y)", "");
    int[] levels = {0, 1, 2, 2, 1, 1};
    for (int i = 0; i < levels.length; i++) due("LEVEL of NODE " + i, x.node(i, 2), levels[i]);
    x.input("x");
    due("LEVEL of the one NODE", x.node(0, 2), 0);
    due("the greatest LEVEL", x.count(11), 0);
    x.input("(seq".repeat(12) + " x" + ")".repeat(12));
    due("LEVEL below 12 forms", x.node(12, 2), 12);
    due("the greatest LEVEL", x.count(11), 12);
  }

  // ---- BUGS

  @Says(in = "Terms I", words = "{ bug NAME odds N when TEST ; }: 6 at most")
  static void terms1_bugs_are_none_to_6() {
    Due.goodBugs(EXPRESSIONS, "", 0);
    Due.goodBugs(EXPRESSIONS, " \n\n ", 0);
    Due.goodBugs(EXPRESSIONS, bugs(1), 1);
    Due.goodBugs(EXPRESSIONS, bugs(6), 6);
    Due.goodBugs(EXPRESSIONS, bugs(6) + "\n ", 6);
    Due.badBugs(EXPRESSIONS, bugs(7), 4, 150);
    Due.badBugs(EXPRESSIONS, bugs(6) + "  bug", 4, 152);
    Due.badBugs(EXPRESSIONS, ";", 1, 0);
    Due.badBugs(EXPRESSIONS, bugs(1) + ";", 1, 25);
  }

  @Says(in = "Terms I", words = "numbered from 0 on; odds 1 .. 100")
  static void terms1_bugs_are_numbered_from_0_on() {
    Subject x = Subject.of(EXPRESSIONS, "x", "bug q odds 1 when size>1;bug r odds 1 when size>0;bug s odds 100 when size>0;");
    Due.due("bug 0", x.name(2, 0), "q");
    Due.due("bug 2", x.name(2, 2), "s");
    due("no bug 3", x.letter(2, 3, 0), -1);
    due("as bits", x.holding(), 6);
  }

  @Says(in = "Terms I", words = "odds 1 .. 100")
  static void terms1_odds_are_1_to_100() {
    for (String n : new String[] {"1", "01", "001", "2", "99", "099", "100"}) {
      Due.goodBugs(EXPRESSIONS, "bug a odds " + n + " when size>0;", 1);
    }
    for (String n : new String[] {"0", "00", "000", "101", "110", "200", "999"}) {
      Due.badBugs(EXPRESSIONS, "bug a odds " + n + " when size>0;", 2, 11);
    }
  }

  @Says(in = "Terms I", words = "TEST: BOTH { or BOTH }. BOTH: FACT { and FACT }.")
  static void terms1_and_binds_closer_than_or() {
    String t = "size=1";
    String f = "size=2";
    for (int bits = 0; bits < 8; bits++) {
      boolean p = (bits & 1) != 0;
      boolean q = (bits & 2) != 0;
      boolean r = (bits & 4) != 0;
      String a = p ? t : f;
      String b = q ? t : f;
      String c = r ? t : f;
      holds("x", a + " or " + b + " and " + c, p || q && r);
      holds("x", a + " and " + b + " or " + c, p && q || r);
      holds("x", a + " or " + b + " or " + c, p || q || r);
      holds("x", a + " and " + b + " and " + c, p && q && r);
      holds("x", "[" + a + " or " + b + "]and " + c, (p || q) && r);
      holds("x", a + " and[" + b + " or " + c + "]", p && (q || r));
      holds("x", a + " and " + b + " or " + c + " and " + a, p && q || r && p);
    }
    Due.badBugs(EXPRESSIONS, bug(""), 1, 18);
    Due.badBugs(EXPRESSIONS, bug("size>0 or"), 1, 27);
    Due.badBugs(EXPRESSIONS, bug("size>0 and"), 1, 28);
    Due.badBugs(EXPRESSIONS, bug("or size>0"), 1, 18);
    Due.badBugs(EXPRESSIONS, bug("size>0 or and size>0"), 1, 28);
    Due.badBugs(EXPRESSIONS, bug("size>0 size>0"), 1, 25);
  }

  @Says(in = "Terms I", words = "BOTH: FACT { and FACT }")
  static void terms1_a_test_may_be_as_long_as_the_tape() {
    holds("x", "size=1 and ".repeat(88) + "size=1", true);
    holds("x", "size=1 and ".repeat(88) + "size=2", false);
    holds("x", "size=2 and " + "size=1 and ".repeat(87) + "size=1", false);
    holds("x", "size=2 or ".repeat(96) + "size=1", true);
    holds("x", "size=1 or " + "size=2 or ".repeat(95) + "size=2", true);
    holds("x", "size=2 or ".repeat(96) + "size=2", false);
    holds("x", "size=2 or size=1 and ".repeat(46) + "size=1", true);
    holds("x", "not ".repeat(6) + "size=2 or " + "not not not not not not size=2 or ".repeat(27) + "not size=1", false);
    holds("x", "size=2 or size=1 and[".repeat(6) + "size=1" + "]".repeat(6), true);
    holds("x", "size=2 or size=1 and[".repeat(6) + "size=2" + "]".repeat(6), false);
    // In six of [ an or and an and are open in each, and behind the last of them, too.
    String nest = "size=2 or size=1 and[";
    holds("x", nest.repeat(6) + "size=2 or size=1 and size=1" + "]".repeat(6), true);
    holds("x", nest.repeat(6) + "size=2 or size=1 and size=2" + "]".repeat(6), false);
    holds("x", nest.repeat(6) + "size=1 or size=1 and size=2" + "]".repeat(6), true);
    holds("x", "size=2 or size=2 and[" + nest.repeat(5) + "size=2 or size=1 and size=1" + "]".repeat(6), false);
    holds("x", "size=1 or size=2 and[" + nest.repeat(5) + "size=2 or size=1 and size=2" + "]".repeat(6), true);
    holds("x", nest.repeat(6) + "size=2 or size=1 and size=1" + "]".repeat(6) + " and size=2", false);
    holds("x", nest.repeat(6) + "size=2 or size=1 and size=2" + "]".repeat(6) + " or size=1", true);
    holds("x", nest.repeat(5) + "size=2 or size=1 and not size=2 and size=1" + "]".repeat(5), true);
    holds("x", nest.repeat(5) + "size=2 or size=1 and not size=1 or size=2" + "]".repeat(5), false);
  }

  @Says(in = "Terms I", words = "FACT: not FACT; [ TEST ] ; COUNT SIGN N")
  static void terms1_not_is_of_the_next_fact_alone() {
    holds("x", "not size=1", false);
    holds("x", "not size=2", true);
    holds("x", "not not size=1", true);
    holds("x", "not not not size=1", false);
    holds("x", "not size=1 or size=1", true);
    holds("x", "not size=2 and size=2", false);
    holds("x", "not[size=1 or size=1]", false);
    holds("x", "not[size=2 or size=2]and size=1", true);
    holds("x", "not[size=1]or size=1", true);
    holds("x", "[[[size=1]]]", true);
    holds("x", "not[not[not[size=1]]]", false);
    Due.badBugs(EXPRESSIONS, bug("[]"), 1, 19);
    Due.badBugs(EXPRESSIONS, bug("[size>0"), 1, 25);
    Due.badBugs(EXPRESSIONS, bug("size>0]"), 1, 24);
    Due.badBugs(EXPRESSIONS, bug("[size>0]]"), 1, 26);
    Due.badBugs(EXPRESSIONS, bug("not"), 1, 21);
    Due.badBugs(EXPRESSIONS, bug("size>0 not"), 1, 25);
    Due.badBugs(EXPRESSIONS, bug("[size>0][size>0]"), 1, 26);
  }

  @Says(in = "Terms I", words = "SIGN < or > or = .")
  static void terms1_signs_at_one_less_the_same_one_more() {
    String input = "(seq x x)";
    boolean[][] want = {{false, true, false}, {false, false, true}, {true, false, false}};
    for (int n = 2; n <= 4; n++) {
      holds(input, "size<" + n, want[n - 2][0]);
      holds(input, "size>" + n, want[n - 2][1]);
      holds(input, "size=" + n, want[n - 2][2]);
    }
    holds(input, "has y<0", false);
    holds(input, "has y=0", true);
    holds(input, "has y>0", false);
    for (String s : new String[] {"!", "?", "#", "<=", "==", "=<", "<>"}) {
      Due.badBugs(EXPRESSIONS, bug("size" + s + "1"), 1, s.length() > 1 ? 23 : 22);
    }
    Due.badBugs(EXPRESSIONS, bug("size 1"), 1, 23);
  }

  @Says(in = "Terms I", words = "COUNT: size (how many NODES), deep (the greatest LEVEL)")
  static void terms1_size_and_deep_of_the_least_and_the_largest() {
    holds("x", "size=1 and deep=0", true);
    holds("(seq)", "size=1 and deep=0", true);
    holds("(seq" + " x".repeat(79) + ")", "size=80 and deep=1", true);
    holds("(seq".repeat(12) + " x" + ")".repeat(12), "size=13 and deep=12", true);
    // The greatest LEVEL, not that of the last NODE.
    holds("(seq(seq(seq x))x)", "deep=3", true);
    // By a change a TREE may be deeper than a text's: LEVEL 11, and five more of LEAST.
    String deep = "form s a:a*;form h a:b;form c b:d;form d d:e;form e e:f;form f f:g;leaf g g;form w b:g g g g;form ww b:b b;";
    String input = "(s".repeat(9) + "(h(ww(w g g g g)(w g g g g)))" + ")".repeat(9);
    Subject x = Subject.of(deep, input, "bug a odds 1 when deep>12;");
    due("deep", x.count(11), 12);
    due("does not hold", x.holding(), 0);
    int k = 0;
    while (x.single(k, 1) != 1 || x.node(x.single(k, 0), 0) != 8) k++;
    due("LEAST of ww", x.change(k), 15);
    due("deep", x.count(11), 14);
    due("holds", x.holding(), 1);
  }

  @Says(in = "Terms I", words = "has NAME (NODES of that NAME)")
  static void terms1_has_counts_nodes_of_a_name() {
    holds("x", "has x=1 and has y=0 and has seq=0", true);
    holds("(seq x(seq x y)x)", "has x=3 and has y=1 and has seq=2 and has add=0", true);
    holds("(seq" + " y".repeat(79) + ")", "has y=79 and has x=0", true);
  }

  @Says(in = "Terms I", words = "under NAME NAME (NODES of the second that lie below one of the first, at any depth)")
  static void terms1_under_is_below_at_any_depth_and_counts_once() {
    // A NODE is not below itself.
    holds("x", "under x x=0", true);
    holds("(seq)", "under seq seq=0", true);
    holds("(seq(seq(seq)))", "under seq seq=2", true);
    // At any depth, once, also below two of the first.
    holds("(add(seq(seq(seq x)))y)", "under add x=1 and under seq x=1 and under seq y=0 and under add y=1", true);
    // What stands behind is not below.
    holds("(add(add x x)(seq y))", "under seq y=1 and under seq x=0 and under add y=1 and under add add=1", true);
    holds("(add(seq x)y)", "under seq y=0 and under seq x=1", true);
  }

  @Says(in = "Terms I", words = "next NAME NAME (PARTS of the first just ahead of a PART of the second, of one NODE)")
  static void terms1_next_is_just_ahead_in_one_node() {
    holds("x", "next x x=0", true);
    holds("(seq x x x)", "next x x=2", true);
    holds("(seq x y x)", "next x y=1 and next y x=1 and next x x=0", true);
    // Not one in the other, not across NODES, not two apart.
    holds("(seq(seq x)y)", "next x y=0 and next seq y=1 and next seq x=0", true);
    holds("(seq(seq x)(seq y))", "next x y=0 and next seq seq=1 and next x seq=0", true);
    holds("(add(add x y)(add y x))", "next x y=1 and next y x=1 and next y y=0 and next add add=1", true);
  }
}
