import java.nio.file.Files;
import java.nio.file.Path;

/** README.md's example: each line stands there as it is called here, and answers what is told behind it. */
public final class ReadmeTest {
  private static int wrong = 0;
  private static String readme = "";

  public static void main(String[] args) throws Exception {
    readme = Files.readString(Path.of("README.md"));
    example();
    files();
    System.out.println(wrong == 0 ? "README.md holds" : wrong + " things are not as README.md says");
    if (wrong != 0) System.exit(1);
  }

  private static void wrongIf(boolean broken, String what) {
    if (!broken) return;
    wrong++;
    System.out.println("README.md: " + what);
  }

  private static void due(String line, int got, String told) {
    wrongIf(!readme.contains(line), "there is no line " + line);
    int from = readme.indexOf(line) + line.length();
    int end = Math.max(from, readme.indexOf('\n', from));
    wrongIf(!readme.substring(from, end).matches(" *// (.*\\D)?" + got + "\\b.*"), line + " answers " + got);
    wrongIf(!told.equals("" + got), line + " answers " + got + ", due is " + told);
  }

  private static void example() {
    TooHotTooCold house = new TooHotTooCold();
    int x = house.shower(13, 2, 80);
    due("int x = house.shower(13, 2, 80);", x, "0");
    due("int cost = house.day(x, 0);", house.day(x, 0), "2689");
    due("int haste = house.best(x, 0);", house.best(x, 0), "2");
    due("int most = house.line(x, 5);", house.line(x, 5), "8");
    String words = "turns cold - was ; costs 1 ; yells cold < 0 ;";
    wrongIf(!readme.contains("String words = \"" + words + "\";"), "there is another text");
    wrongIf(!readme.contains("house.feed(1, words.charAt(i), 0, 0, 0, 0);"), "it is not fed so");
    for (int i = 0; i < words.length(); i++) house.feed(1, words.charAt(i), 0, 0, 0, 0);
    int text = house.text();
    due("int text = house.text();", text, "1");
    due("house.force(text);", house.force(text), "0");
    due("int less = house.day(x, 0);", house.day(x, 0), "30");
    wrongIf(!readme.contains("house.film(0, x, 30);"), "there is no film");
    house.film(0, x, 30);
    due("int by = house.laws(0, x);", house.laws(0, x), "2");
  }

  /** Each test is told of. */
  private static void files() throws Exception {
    try (var tests = Files.list(Path.of("tests"))) {
      tests.forEach(t -> wrongIf(!readme.contains("- `tests/" + t.getFileName() + "`"), "nothing of " + t));
    }
  }
}
