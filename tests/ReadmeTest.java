import java.io.File;
import java.io.IOException;
import java.lang.reflect.Method;
import java.nio.file.Files;
import java.nio.file.Path;
import java.util.regex.Matcher;
import java.util.regex.Pattern;

/** README.md tells the truth: its examples answer as it says, and it names all calls and all tests. */
public final class ReadmeTest {
  private static final Pattern EXAMPLE = Pattern.compile("(?m)^judge\\.(\\w+)\\((.*?)\\); *// (true|false|-?\\d+)\\b(.*)$");
  private static final Pattern TEXT = Pattern.compile(": \"(.*)\"");

  public static void main(String[] args) throws IOException {
    String page = Files.readString(Path.of("README.md"));
    examples(page);
    calls(page);
    tests(page);
    Expect.finish();
  }

  /** All examples are one run of calls, in their order. */
  private static void examples(String page) {
    Play play = Play.fresh();
    Matcher example = EXAMPLE.matcher(page);
    int seen = 0;
    while (example.find()) {
      seen++;
      int[] with = numbers(example.group(2));
      String answer = example.group(3).replace("true", "1").replace("false", "0");
      play.due(Long.parseLong(answer), example.group(1), with);
      Matcher text = TEXT.matcher(example.group(4));
      if (text.find()) fed(text.group(1), with);
    }
    int lines = page.split("\njudge\\.", -1).length - 1;
    Expect.due("examples understood", seen, lines);
    Expect.holds("there are examples", seen > 0);
  }

  private static int[] numbers(String arguments) {
    if (arguments.isEmpty()) return new int[0];
    String[] parts = arguments.split(", *");
    int[] numbers = new int[parts.length];
    for (int i = 0; i < parts.length; i++) numbers[i] = Integer.decode(parts[i]);
    return numbers;
  }

  private static void fed(String text, int[] words) {
    int[] due = Expect.words(text);
    for (int i = 0; i < due.length; i++) Expect.due("word " + i + " of \"" + text + "\"", words[i], due[i]);
  }

  private static void calls(String page) {
    for (Method call : GraspJudge.class.getMethods()) {
      boolean own = call.getDeclaringClass() == GraspJudge.class;
      if (own) Expect.holds("README.md does not name " + call, page.contains("`" + call.getName() + "`"));
    }
  }

  private static void tests(String page) {
    File[] files = new File("tests").listFiles();
    Expect.holds("there are tests", files != null && files.length > 0);
    for (File file : files == null ? new File[0] : files) {
      String name = file.getName();
      if (name.endsWith("Test.java")) Expect.holds("README.md does not name " + name, page.contains("`tests/" + name + "`"));
    }
  }
}
