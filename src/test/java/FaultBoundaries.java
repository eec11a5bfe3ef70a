/** Boundary cases of the document's FAULTS, at the end of terms I. */
final class FaultBoundaries {
  private static final String EXPRESSIONS = TextBoundaries.EXPRESSIONS;
  private static final String CHAINS = TextBoundaries.CHAINS;

  private FaultBoundaries() {}

  private static String bug(String test) {
    return TextBoundaries.bug(test);
  }

  private static void badBug(String test, int fault, int place) {
    Due.badBugs(EXPRESSIONS, bug(test), fault, place);
  }

  private static void badInput(String text, int fault, int place) {
    Due.badInput(EXPRESSIONS, text, fault, place);
  }

  @Says(in = "Terms I", words = "FAULTS, of several the one whose place is least")
  static void faults_the_one_whose_place_is_least() {
    Due.badGrammar("leaf x e;leaf x e;leaf", 3, 14);
    Due.badGrammar("leaf x e;leaf x form;", 3, 14);
    Due.badGrammar("leaf form e;leaf x e;leaf x e;", 1, 5);
    Due.badGrammar("form f e:e e e e e;form f e:e;", 4, 17);
    Due.badGrammar("form f a:a;form f a:a;", 3, 16);
    Due.badGrammar(TextBoundaries.leaves(25) + "leaf a e;", 4, 216);
    badInput("(add x z", 3, 7);
    badInput("(add add z)", 5, 5);
    badInput("(add z add)", 3, 5);
    badInput("(add x x z)", 3, 9);
    badInput("(add x;z)", 1, 6);
    badBug("has q>0 and has>0", 3, 22);
    badBug("has x>q and has q>0", 1, 24);
    Due.badBugs(EXPRESSIONS, "bug a odds 0 when has q>0;", 2, 11);
    Due.badBugs(EXPRESSIONS, "bug or odds 0 when has q>0;", 1, 4);
    Due.badBugs(EXPRESSIONS, "bug a odds 0when size>0;", 2, 11);
  }

  @Says(in = "Terms I", words = "of one place the one that stands first here")
  static void faults_1_ahead_of_4_at_one_place() {
    String lines = TextBoundaries.leaves(24);
    Due.badGrammar(lines + "x", 1, 216);
    Due.badGrammar(lines + "leafs y e;", 1, 216);
    Due.badGrammar(lines + ";", 1, 216);
    Due.badGrammar("leaf x e;form f e:e e e e bug;", 1, 26);
    Due.badGrammar("leaf x e;form f e:e e e e abcdefg;", 1, 26);
    Due.badGrammar("leaf x e;form f e:e e e e 7;", 1, 26);
    Due.badGrammar("leaf a a;leaf b b;leaf c c;leaf d d;leaf e e;leaf f f;leaf g abcdefg;", 1, 61);
    Due.badBugs(EXPRESSIONS, TextBoundaries.bugs(6) + "bugs", 1, 150);
    badInput("(seq" + " x".repeat(79) + " bug)", 1, 163);
    badInput("(seq" + " x".repeat(79) + " abcdefg)", 1, 163);
    badBug("[".repeat(6) + "nots>0", 1, 24);
  }

  @Says(in = "Terms I", words = "of one place the one that stands first here")
  static void faults_3_ahead_of_4_and_5_at_one_place() {
    badInput("(seq" + " x".repeat(79) + " z)", 3, 163);
    badInput("(add x y z)", 3, 9);
    badInput("(z)", 3, 1);
    badInput("(add x y(z))", 3, 9);
  }

  @Says(in = "Terms I", words = "of one place the one that stands first here")
  static void faults_4_ahead_of_5_at_one_place() {
    badInput("(seq" + " x".repeat(79) + " add)", 4, 163);
    Due.badInput("form r e:s*;leaf x s;leaf y t;", "(r" + " x".repeat(79) + " y)", 4, 161);
    Due.badInput("form r e:s*;leaf x s;leaf y t;", "(r" + " x".repeat(78) + " y)", 5, 159);
  }

  @Says(in = "Terms I", words = "of one place the one that stands first here")
  static void faults_1_ahead_of_5_at_a_grammars_length() {
    Due.badGrammar("form f a:a", 1, 10);
    Due.badGrammar("form f a:a;", 5, 11);
    Due.badGrammar("form f a:a;form", 1, 15);
    Due.badGrammar("form f a:a; leaf x a", 1, 20);
  }

  @Says(in = "Terms I", words = "1 the first byte with which no such text goes on")
  static void faults_1_at_the_first_byte_that_does_not_go_on() {
    Due.badGrammar("\u0000leaf x e;", 1, 0);
    Due.badGrammar(" (leaf x e;", 1, 1);
    Due.badGrammar("leaf x e ,", 1, 9);
    Due.badGrammar("leaf : e;", 1, 5);
    badInput("#", 1, 0);
    badInput(")", 1, 0);
    badInput("(seq x,y)", 1, 6);
    badInput("(seq [)", 1, 5);
    badInput("(seq 5)", 1, 5);
    badInput("(5)", 1, 1);
    badBug("(size>0)", 1, 18);
    badBug("size>0,", 1, 24);
    badBug("has x y>0", 1, 24);
    badBug("under x>0", 1, 25);
    badBug("size x>0", 1, 23);
    badBug("deep size>0", 1, 23);
  }

  /** Without one of its pieces a text is wrong at the piece behind. */
  private static void without(int kind, String[] pieces, int gone) {
    StringBuilder b = new StringBuilder();
    int place = -1;
    for (int i = 0; i < pieces.length; i++) {
      if (i == gone) place = b.length();
      else b.append(pieces[i]).append(' ');
    }
    if (kind == 0) Due.badGrammar(b.toString(), 1, place);
    if (kind == 2) Due.badBugs(EXPRESSIONS, b.toString(), 1, place);
  }

  @Says(in = "Terms I", words = "1 the first byte with which no such text goes on")
  static void faults_1_at_what_stands_behind_a_piece_that_is_missing() {
    String[] leaf = {"leaf", "x", "e", ";"};
    for (int i : new int[] {0, 2, 3}) without(0, leaf, i);
    String[] form = {"form", "f", "e", ":", "e", "*", ";", "leaf", "x", "e", ";"};
    for (int i : new int[] {0, 2, 4, 6, 7, 9, 10}) without(0, form, i);
    String[] bug = {"bug", "a", "odds", "5", "when", "not", "[", "size", ">", "0", "]", "or", "under", "x", "y", "<", "9", ";",
        "bug", "b", "odds", "5", "when", "has", "x", "=", "0", ";"};
    for (int i : new int[] {0, 1, 2, 3, 4, 7, 8, 9, 11, 12, 14, 15, 16, 17, 18, 19, 20, 21, 22, 23, 24, 25, 26, 27}) {
      without(2, bug, i);
    }
    Due.badBugs(EXPRESSIONS, "bug a 5 when size>0;", 1, 6);
    Due.badBugs(EXPRESSIONS, "bug odds 5 when size>0;", 1, 4);
    Due.badBugs(EXPRESSIONS, "bug a odds when size>0;", 1, 11);
    Due.badBugs(EXPRESSIONS, "bug a odds 5 size>0;", 1, 13);
    // Two of a kind.
    Due.badBugs(EXPRESSIONS, "bug bug a odds 5 when size>0;", 1, 4);
    Due.badBugs(EXPRESSIONS, "bug a b odds 5 when size>0;", 1, 6);
    Due.badBugs(EXPRESSIONS, "bug a odds odds 5 when size>0;", 1, 11);
    Due.badBugs(EXPRESSIONS, "bug a odds 5 5 when size>0;", 1, 13);
    Due.badBugs(EXPRESSIONS, "bug a odds 5 when when size>0;", 1, 18);
    badBug("size size>0", 1, 23);
    badBug("size>>0", 1, 23);
    badBug("size>0 0", 1, 25);
    Due.badBugs(EXPRESSIONS, bug("size>0") + ";", 1, 25);
  }

  @Says(in = "Terms I", words = "1 the first byte with which no such text goes on")
  static void faults_1_at_a_test_without_what_stands_ahead_of_it() {
    Due.badBugs(EXPRESSIONS, "size>0;", 1, 0);
    Due.badBugs(EXPRESSIONS, "not size>0;", 1, 0);
    Due.badBugs(EXPRESSIONS, "[size>0];", 1, 0);
    Due.badBugs(EXPRESSIONS, "bug size>0;", 1, 4);
    Due.badBugs(EXPRESSIONS, "bug a size>0;", 1, 6);
    Due.badBugs(EXPRESSIONS, "bug a[size>0];", 1, 5);
    Due.badBugs(EXPRESSIONS, "bug a odds size>0;", 1, 11);
    Due.badBugs(EXPRESSIONS, "bug a odds[size>0];", 1, 10);
    Due.badBugs(EXPRESSIONS, "bug a odds 5[size>0];", 1, 12);
    Due.badBugs(EXPRESSIONS, bug("size>0") + "size>0;", 1, 25);
  }

  @Says(in = "Terms I", words = "1 the first byte with which no such text goes on")
  static void faults_1_at_what_stands_behind_a_count_without_its_sign() {
    String[] counts = {"size", "deep", "has x", "under x y", "next x y"};
    for (String count : counts) {
      for (String behind : new String[] {"", "]", " or size>0", " and size>0", " 0", "[size>0]", ">", ">]", "> or size>0", ">x"}) {
        int place = 18 + count.length();
        if (behind.startsWith(" ") || behind.startsWith(">")) place++;
        if (behind.startsWith("> ")) place++;
        badBug(count + behind, 1, place);
        badBug("[" + count + behind, 1, place + 1);
      }
    }
  }

  @Says(in = "Terms I", words = "WORDS and numbers whole, at their first byte")
  static void faults_1_words_and_numbers_whole() {
    Due.badGrammar("leafs x e;", 1, 0);
    Due.badGrammar("leafxe;", 1, 0);
    Due.badGrammar(" formf e:;", 1, 1);
    Due.badBugs(EXPRESSIONS, "bugs a odds 1 when size>0;", 1, 0);
    Due.badBugs(EXPRESSIONS, "bug a oddss 1 when size>0;", 1, 6);
    Due.badBugs(EXPRESSIONS, "bug a odds 1 whens size>0;", 1, 13);
    badBug("sizes>0", 1, 18);
    badBug("size>0 orr size>0", 1, 25);
    badBug("size>0 andd size>0", 1, 25);
    badBug("notsize>0", 1, 18);
    badBug("size>0123", 1, 23);
  }

  @Says(in = "Terms I", words = "also a NAME of 7 letters")
  static void faults_1_a_name_of_7_letters() {
    Due.goodGrammar("leaf abcdef e;", 1);
    Due.badGrammar("leaf abcdefg e;", 1, 5);
    Due.badInput("leaf abcdef e;", "abcdefg", 1, 0);
    Due.badInput("leaf abcdef e;", "abcdez", 3, 0);
    badBug("has abcdefg>0", 1, 22);
    badBug("has abcdef>0", 3, 22);
    Due.badBugs(EXPRESSIONS, "bug abcdefg odds 1 when size>0;", 1, 4);
  }

  @Says(in = "Terms I", words = "an OWN WORD where a NAME is asked")
  static void faults_1_an_own_word_where_a_name_is_asked() {
    for (String own : TextBoundaries.OWN_WORDS) {
      badInput("(seq " + own + ")", 1, 5);
      badBug("under " + own + " x>0", 1, 24);
      badBug("under x " + own + ">0", 1, 26);
      Due.badGrammar("leaf x e;leaf " + own + " e;", 1, 14);
    }
  }

  @Says(in = "Terms I", words = "a number of 4 digits")
  static void faults_1_a_number_of_4_digits() {
    Due.badBugs(EXPRESSIONS, "bug a odds 0100 when size>0;", 1, 11);
    Due.badBugs(EXPRESSIONS, "bug a odds 1000 when size>0;", 1, 11);
    Due.badBugs(EXPRESSIONS, "bug a odds 999 when size>0;", 2, 11);
    badBug("size>0000", 1, 23);
    Due.goodBugs(EXPRESSIONS, bug("size>000"), 1);
    // A number is no sign, also if it is that sign's byte, or begins with it.
    for (String n : new String[] {"", "0", "00", "9999"}) {
      Due.badGrammar("leaf x e 059" + n, 1, 9);
      Due.badGrammar("leaf x e059" + n, 1, 8);
      Due.badGrammar("form f e 058" + n + ";", 1, 9);
      badInput("040" + n + "seq)", 1, 0);
      badInput("(seq 041" + n, 1, 5);
      badInput("(seq x 041" + n, 1, 7);
      badBug("091" + n + "size>0]", 1, 18);
      badBug("size 062" + n + " 0", 1, 23);
      badBug("[size>0 093" + n, 1, 26);
    }
  }

  /** Each piece alone must be missed at the length of those ahead of it. */
  private static void cutShort(int kind, String... pieces) {
    StringBuilder b = new StringBuilder();
    for (String piece : pieces) {
      for (String blanks : new String[] {"", " ", "\n  "}) {
        String text = b + blanks;
        if (kind == 0) Due.badGrammar(text, 1, text.length());
        if (kind == 1) badInput(text, 1, text.length());
        if (kind == 2 && !text.isBlank()) Due.badBugs(EXPRESSIONS, text, 1, text.length());
      }
      b.append(piece);
    }
    if (kind == 0) Due.goodGrammar(b.toString(), 1);
    if (kind == 1) Due.goodInput(EXPRESSIONS, b.toString(), 4);
    if (kind == 2) Due.goodBugs(EXPRESSIONS, b.toString(), 1);
  }

  @Says(in = "Terms I", words = "at the text's length, if it ends too soon")
  static void faults_1_at_the_length_if_it_ends_too_soon() {
    cutShort(0, "leaf", " x", " e", ";");
    cutShort(0, "form", " f", " e", ":", " e", "*", ";");
    cutShort(1, "(", "seq", "(", "add", " x", " y", ")", ")");
    cutShort(2, "bug", " a", " odds", " 1", " when", " not", " [", "size", ">", "0", " or", " under", " x", " y", "<", "9",
        "]", " and", " has", " x", "=", "1", ";");
    Due.badGrammar("leaf x e;form", 1, 13);
    Due.badGrammar("leaf x e;form f", 1, 15);
    Due.badGrammar("leaf x e;form f e", 1, 17);
    Due.badGrammar("leaf x e;form f e:", 1, 18);
    Due.badGrammar("leaf x e;form f e:e ", 1, 20);
    Due.badGrammar("leaf x e;form f e:e*", 1, 20);
    badInput(" ".repeat(1000), 1, 1000);
    badInput("(seq" + " ".repeat(996), 1, 1000);
    Due.goodInput(EXPRESSIONS, " ".repeat(999) + "x", 1);
    Due.badBugs(EXPRESSIONS, "bug a odds" + " ".repeat(989) + "1", 1, 1000);
  }

  @Says(in = "Terms I", words = "2 odds that can't be, at the number")
  static void faults_2_odds_that_cannot_be() {
    Due.badBugs(EXPRESSIONS, "bug a odds 0 when size>0;", 2, 11);
    Due.badBugs(EXPRESSIONS, "bug a odds 101 when size>0;", 2, 11);
    Due.badBugs(EXPRESSIONS, "bug abc odds\n  000", 2, 15);
    Due.badBugs(EXPRESSIONS, TextBoundaries.bugs(5) + "bug f odds 0", 2, 136);
    Due.badBugs(EXPRESSIONS, "bug a odds 1", 1, 12);
  }

  @Says(in = "Terms I", words = "3 a NAME that was told (of a leaf, a form; of a bug, among bugs)")
  static void faults_3_a_name_that_was_told() {
    Due.badGrammar("leaf x e;leaf x", 3, 14);
    Due.badGrammar("form x e:;form x", 3, 15);
    Due.badBugs(EXPRESSIONS, "bug p odds 1 when size>0;bug p", 3, 29);
    Due.badBugs(EXPRESSIONS, TextBoundaries.bugs(5) + "bug a odds 1 when size>0;", 3, 129);
    Due.badBugs(EXPRESSIONS, TextBoundaries.bugs(5) + "bug e odds 1 when size>0;", 3, 129);
    // Among bugs alone, and among those of one text alone.
    Subject x = Subject.of(EXPRESSIONS, "", "bug p odds 1 when size>0;");
    Due.due("told by the text before", x.bugs("bug p odds 1 when size>0;bug x odds 1 when size>0;"), 2);
    Due.due("a GRAMMAR that was told", x.grammar(EXPRESSIONS), 4);
  }

  @Says(in = "Terms I", words = "one that is none of the GRAMMAR's leaves, forms (in an INPUT, a TEST), at it")
  static void faults_3_a_name_that_is_none_of_the_grammars() {
    badInput("z", 3, 0);
    badInput("(z)", 3, 1);
    badInput("(seq z)", 3, 5);
    // A SORT's NAME, a bug's NAME, one letter less or more.
    badInput("e", 3, 0);
    badInput("(seqs)", 3, 1);
    badInput("(se)", 3, 1);
    Due.badInput("leaf x e;form f e:e*;", "(f p)", 3, 3);
    badBug("has z>0", 3, 22);
    badBug("has e>0", 3, 22);
    badBug("has a>0", 3, 22);
    badBug("under z x>0", 3, 24);
    badBug("under x z>0", 3, 26);
    badBug("next z x>0", 3, 23);
    badBug("next x z>0", 3, 25);
    Due.goodBugs(EXPRESSIONS, bug("next seq add>0"), 1);
    // A NAME of the GRAMMAR before.
    Subject x = Subject.of(EXPRESSIONS, "x", "");
    x.grammar("leaf p e;");
    Due.due("x", x.input("x"), -1);
    Due.due("fault(0)", x.fault(0), 3);
    Due.due("has x", x.bugs(bug("has x>0")), -1);
    Due.due("fault(1)", x.fault(1), 22);
  }

  @Says(in = "Terms I", words = "4 one too many: a 25th LINE, a 7th bug (at its first byte)")
  static void faults_4_a_25th_line_at_its_first_byte() {
    String lines = TextBoundaries.leaves(24);
    Due.badGrammar(lines + "leaf", 4, 216);
    Due.badGrammar(lines + "\n form", 4, 218);
    Due.badGrammar(lines + "leaf bug bug;", 4, 216);
    Due.goodGrammar(lines, 24);
  }

  @Says(in = "Terms I", words = "a 7th bug (at its first byte)")
  static void faults_4_a_7th_bug_at_its_first_byte() {
    String six = TextBoundaries.bugs(6);
    Due.goodBugs(EXPRESSIONS, six, 6);
    Due.badBugs(EXPRESSIONS, six + "bug", 4, 150);
    Due.badBugs(EXPRESSIONS, six + " \nbug a odds 0", 4, 152);
  }

  @Says(in = "Terms I", words = "a 7th SORT, a 5th one behind a : (at it)")
  static void faults_4_a_7th_sort_at_it() {
    String six = "leaf a a;leaf b b;leaf c c;leaf d d;leaf e e;leaf f f;";
    Due.goodGrammar(six, 6);
    Due.badGrammar(six + "leaf g  g;", 4, 62);
    Due.badGrammar(six + "form g g", 4, 61);
    Due.badGrammar(six + "form g f: a  g;", 4, 67);
    Due.badGrammar("form f a:b c d e;leaf a a;form g f:g;", 4, 35);
  }

  @Says(in = "Terms I", words = "a 5th one behind a : (at it)")
  static void faults_4_a_5th_sort_behind_a_colon_at_it() {
    Due.goodGrammar("leaf x e;form f e:e e e e;", 2);
    Due.badGrammar("leaf x e;form f e:e e e e e", 4, 26);
    Due.badGrammar("leaf x e;form f e:e e e e  q*;", 4, 27);
    Due.badGrammar("leaf x e;form f e:e e e;form g e:e e e e;form h e:e e e e e;", 4, 58);
  }

  @Says(in = "Terms I", words = "an 81st NODE")
  static void faults_4_an_81st_node_at_it() {
    String full = "(seq" + " x".repeat(79);
    Due.goodInput(EXPRESSIONS, full + ")", 80);
    badInput(full + " x)", 4, 163);
    badInput(full + "\n\n y", 4, 165);
    badInput("(seq(seq" + " x".repeat(78) + ")y)", 4, 165);
    badInput(full + "x", 3, 161);
    // A form, too; whether it is at its ( or at its NAME is left open.
    Subject x = Subject.of(EXPRESSIONS, "x", "");
    for (String form : new String[] {"(seq)", "(seq))", "(add x y))"}) {
      Due.due("an 81st NODE that is a form", x.input(full + form), -1);
      Due.due("fault(0)", x.fault(0), 4);
      Due.due("the INPUT stays", x.count(2), 1);
    }
  }

  @Says(in = "Terms I", words = "a 13th ( that is open")
  static void faults_4_a_13th_open_bracket_at_it() {
    badInput("(seq".repeat(12) + "(", 4, 48);
    badInput("(seq".repeat(12) + " x  (", 4, 52);
    badInput("(seq".repeat(12) + "(x)", 4, 48);
    badInput("(seq".repeat(12) + ")(seq)(seq(", 4, 58);
    badInput("(seq".repeat(12) + "x", 3, 45);
  }

  @Says(in = "Terms I", words = "the 7th of [ not that is open at once")
  static void faults_4_the_7th_open_bracket_or_not_at_it() {
    Due.goodBugs(EXPRESSIONS, bug("[".repeat(6) + "size>0" + "]".repeat(6)), 1);
    badBug("[".repeat(7) + "size>0" + "]".repeat(7), 4, 24);
    Due.goodBugs(EXPRESSIONS, bug("not ".repeat(6) + "size>0"), 1);
    badBug("not ".repeat(7) + "size>0", 4, 42);
    Due.goodBugs(EXPRESSIONS, bug("not[not[not[size>0]]]"), 1);
    badBug("not[not[not[not size>0]]]", 4, 30);
    badBug("not[not[not[[size>0]]]]", 4, 30);
    badBug("[[[[[[size>0 or [", 4, 34);
    badBug("[[[[[[size>0 and not", 4, 35);
    // Those that are closed do not count.
    Due.goodBugs(EXPRESSIONS, bug("[size>0]and[size>0]and[size>0]and[size>0]and[size>0]and[size>0]and[size>0]"), 1);
    Due.goodBugs(EXPRESSIONS, bug("[[[[[[size>0]or[size>0]]]]]]"), 1);
    badBug("[[[[[[size>0]or[[", 4, 34);
  }

  @Says(in = "Terms I", words = "(not until its FACT ends)")
  static void faults_4_a_not_is_open_until_its_fact_ends() {
    // Behind a COUNT the nots ahead of it are closed ..
    Due.goodBugs(EXPRESSIONS, bug("not not not not not not size>0 and not not not not not not size>0"), 1);
    Due.goodBugs(EXPRESSIONS, bug("not not not not not size>0 or [[[[[[size>0]]]]]]"), 1);
    badBug("not not not not not not size>0 and not not not not not not not size>0", 4, 77);
    // .. and behind the ] of their FACT, not before.
    Due.goodBugs(EXPRESSIONS, bug("not not not[size>0 and not not size>0]and[[[[[[size>0]]]]]]"), 1);
    Due.goodBugs(EXPRESSIONS, bug("not not not not[size>0 or not size>0]"), 1);
    badBug("not not not not[size>0 or not not size>0]", 4, 48);
    badBug("not not not not not[size>0]and not[not[not[not size>0", 4, 61);
    Due.goodBugs(EXPRESSIONS, bug("[not not not not not size>0 and not not not not not size>0]"), 1);
  }

  @Says(in = "Terms I", words = "5 an INPUT's NODE that can't stand there: a form without (, a leaf behind one")
  static void faults_5_a_form_without_a_bracket_a_leaf_behind_one() {
    badInput("add", 5, 0);
    badInput("(add x seq)", 5, 7);
    badInput("(x)", 5, 1);
    badInput("( y)", 5, 2);
    badInput("(seq(y))", 5, 5);
    Due.badInput("form f e:;", "f", 5, 0);
    Due.goodInput("form f e:;", "(f)", 1);
  }

  @Says(in = "Terms I", words = "a NAME of another SORT, a PART too many (at its NAME)")
  static void faults_5_a_name_of_another_sort_a_part_too_many() {
    Due.badInput(CHAINS, "(a(b c))", 5, 1);
    Due.badInput(CHAINS, "c", 5, 0);
    Due.badInput(CHAINS, "(top(b c))", 5, 5);
    Due.badInput(CHAINS, "(top(a c))", 5, 7);
    Due.badInput(CHAINS, "(top(a(b c)) c)", 5, 13);
    badInput("(add x y x)", 5, 9);
    badInput("(add x y(seq))", 5, 9);
    Due.badInput("form f e:;leaf x e;", "(f x)", 5, 3);
    Due.goodInput(CHAINS, "(top(wide c d c)(a(b c)))", 8);
    Due.badInput(CHAINS, "(top(wide c d c d))", 5, 16);
  }

  @Says(in = "Terms I", words = "too few PARTS (at the ) )")
  static void faults_5_too_few_parts_at_the_closing_bracket() {
    badInput("(add)", 5, 4);
    badInput("(add x)", 5, 6);
    badInput("(add x \n)", 5, 8);
    Due.goodInput(EXPRESSIONS, "(add x y)", 3);
    badInput("(seq(add x)y)", 5, 10);
    Due.badInput(CHAINS, "(top)", 5, 4);
    Due.badInput(CHAINS, "(top(wide c d))", 5, 13);
    Due.badInput("leaf x e;form f e:e e e e*;", "(f x x)", 5, 6);
    Due.goodInput("leaf x e;form f e:e e e e*;", "(f x x x)", 4);
  }

  @Says(in = "Terms I", words = "a SORT without a TREE (of a GRAMMAR, at its length)")
  static void faults_5_a_sort_without_a_tree_at_the_length() {
    Due.badGrammar("form f a:a;", 5, 11);
    Due.badGrammar("form f a:a;\n ", 5, 13);
    Due.badGrammar("form f a:b;form g b:a;", 5, 22);
    Due.badGrammar("leaf x e;form f e:s;", 5, 20);
    Due.badGrammar("leaf x e;form f e:s*;", 5, 21);
    Due.badGrammar("leaf x e;form f s:s;", 5, 20);
    Due.badGrammar("leaf x e;form f s:e s s*;", 5, 25);
    Due.goodGrammar("form f a:a*;", 1);
    Due.goodGrammar("form f a:b;form g b:a*;", 2);
    Due.goodGrammar("form f a:a;leaf x a;", 2);
    Due.goodGrammar("form f a:b;form g b:c;form h c:d;form i d:e;form j e:k;leaf l k;", 6);
    Due.badGrammar("form f a:b;form g b:c;form h c:d;form i d:e;form j e:k;form l k:a;", 5, 66);
    // As long as the tape.
    Due.badGrammar("form f a:a;" + " ".repeat(989), 5, 1000);
  }
}
