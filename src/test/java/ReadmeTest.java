import java.io.ByteArrayOutputStream;
import java.io.IOException;
import java.io.PrintStream;
import java.nio.ByteBuffer;
import java.nio.charset.StandardCharsets;
import java.nio.file.DirectoryStream;
import java.nio.file.Files;
import java.nio.file.Path;
import java.util.ArrayList;
import java.util.Arrays;
import java.util.List;
import java.util.regex.Matcher;
import java.util.regex.Pattern;

/** README.md: its code stands here, too, and prints what it says there; no call, no test is left out. */
public final class ReadmeTest {
  private static int wrong = 0;

  public static void main(String[] args) throws IOException {
    Path root = Path.of(args.length > 0 ? args[0] : ".");
    String readme = Files.readString(root.resolve("README.md"));
    String own = Files.readString(root.resolve("src/test/java/ReadmeTest.java"));
    for (String block : blocks(readme)) sameCode(block, own);
    prints(readme);
    namesCalls(readme, Files.readString(root.resolve("../shared/DOC.md")));
    try (DirectoryStream<Path> tests = Files.newDirectoryStream(root.resolve("src/test/java"), "*Test.java")) {
      for (Path t : tests) check(readme.contains("`src/test/java/" + t.getFileName() + "`"), "not told: " + t.getFileName());
    }
    System.out.println(wrong == 0 ? "README.md says what is so" : wrong + " things that README.md does not say rightly");
    if (wrong != 0) System.exit(1);
  }

  private static void check(boolean good, String what) {
    if (good) return;
    wrong++;
    System.out.println(what);
  }

  private static List<String> blocks(String readme) {
    List<String> all = new ArrayList<>();
    Matcher m = Pattern.compile("```java\n(.*?)```", Pattern.DOTALL).matcher(readme);
    while (m.find()) all.add(m.group(1));
    check(all.size() == 2, "blocks of code: " + all.size());
    return all;
  }

  /** The block's lines stand in this file one behind the other, but for what is ahead and what is remarked. */
  private static void sameCode(String block, String own) {
    check(plain(own).contains(plain(block)), "other code than in ReadmeTest:\n" + block);
  }

  private static String plain(String code) {
    StringBuilder b = new StringBuilder("\n");
    for (String line : code.split("\n")) b.append(line.replaceAll(" *// .*$", "").replace("private ", "").strip()).append('\n');
    return b.toString();
  }

  private static void prints(String readme) {
    List<String> due = new ArrayList<>();
    Matcher m = Pattern.compile("println\\(.*\\); *// (-?\\d+) ").matcher(readme);
    while (m.find()) due.add(m.group(1));
    PrintStream before = System.out;
    ByteArrayOutputStream printed = new ByteArrayOutputStream();
    System.setOut(new PrintStream(printed, true, StandardCharsets.ISO_8859_1));
    example();
    System.setOut(before);
    List<String> got = List.of(printed.toString(StandardCharsets.ISO_8859_1).strip().split("\\s+"));
    check(got.equals(due), "the example prints " + got + ", README.md says " + due);
  }

  private static void namesCalls(String readme, String document) {
    Matcher m = Pattern.compile("public (?:int|boolean) (\\w+)\\(([^)]*)\\)").matcher(document);
    int calls = 0;
    while (m.find()) {
      calls++;
      String call = m.group(1) + "(" + m.group(2).replaceAll("\\bint ", "") + ")";
      check(readme.contains("`" + call + "`"), "not told: " + call);
    }
    check(calls == 31, "calls of the document: " + calls);
  }

  private static void give(LeastFailing x, String text) {
    ByteBuffer b = ByteBuffer.wrap(Arrays.copyOf(text.getBytes(StandardCharsets.ISO_8859_1), (text.length() + 19) / 20 * 20));
    while (b.hasRemaining()) x.feed(b.getInt(), b.getInt(), b.getInt(), b.getInt(), b.getInt());
    x.end(text.length());
  }

  private static void example() {
    LeastFailing x = new LeastFailing();
    give(x, "leaf x e; leaf y e; form add e: e e; form seq e: e*;");
    System.out.println(x.grammar());
    give(x, "(seq x (add x y) y (seq y))");
    System.out.println(x.input());
    give(x, "bug few odds 100 when has y > 1; bug odd odds 60 when under add y > 0;");
    System.out.println(x.bugs());
    System.out.println(x.holding());
    System.out.println(x.verdict());
    System.out.println(x.reduce(0, 3));
    System.out.println(x.count(2));
    System.out.println(x.node(1, 0));
    System.out.println(x.more());
    System.out.println(x.count(5));
    System.out.println(x.undo());
    System.out.println(x.count(2));
    give(x, "(add x)");
    System.out.println(x.input());
    System.out.println(x.fault(0));
    System.out.println(x.fault(1));
    System.out.println(x.enough(60, 700000));
  }
}
