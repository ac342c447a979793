import java.io.IOException;
import java.nio.file.Files;
import java.nio.file.Path;

/**
 * A part of the document, and which of its words a test has taken up: none may be left over at the end. Where the
 * document is not to be had, the cases are played all the same.
 */
final class Document {
  private static final Path FILE = Path.of("../shared/DOC.md");

  private final String name;
  private final String text;
  private final boolean[] told;

  private Document(String name, String text) {
    this.name = name;
    this.text = text;
    told = new boolean[text.length()];
  }

  static Document terms() {
    String all = part("\n## Terms");
    return new Document("Terms", all.replace("```text ", "").replace("``` ", "").replace("==== 2. ", ""));
  }

  /** What a promise says behind the call's face. */
  static Document promise(int number) {
    String all = part("\n## Promise " + number + ":");
    return new Document("Promise " + number, all.isEmpty() ? all : all.substring(all.indexOf(")`: ") + 4));
  }

  /** All between a heading and the next one, with one blank where there are several or lines end. */
  private static String part(String heading) {
    if (!Files.exists(FILE)) return "";
    try {
      String all = Files.readString(FILE) + "\n## ";
      int begin = all.indexOf('\n', all.indexOf(heading) + 1);
      return all.substring(begin, all.indexOf("\n## ", begin)).replaceAll("\\s+", " ").trim();
    } catch (IOException e) {
      throw new IllegalStateException("the document can't be read at " + FILE.toAbsolutePath(), e);
    }
  }

  /** What follows is about these words of it. */
  void says(String words) {
    int at = text.indexOf(words);
    Expect.about(name + ", \"" + words + "\": ");
    Expect.holds("the document does not say so", at >= 0 || text.isEmpty());
    for (int i = at; at >= 0 && i < at + words.length(); i++) told[i] = true;
  }

  void finish() {
    Expect.about(name + ": ");
    StringBuilder left = new StringBuilder();
    for (int i = 0; i < told.length; i++) {
      if (!told[i]) left.append(text.charAt(i));
      else if (left.length() > 0 && left.charAt(left.length() - 1) != '|') left.append('|');
    }
    Expect.holds("no test takes up: " + left, !left.toString().matches("(?s).*[A-Za-z0-9].*"));
    Expect.about("");
  }
}
