/** Counts answers that are not the ones that are due, and ends the test with exit code 1 if there was one. */
final class Expect {
  static final long NO = GraspJudge.NO_NUMBER;

  private static int wrong = 0;
  private static int asked = 0;
  private static String topic = "";

  private Expect() { }

  /** What the next answers are about; it is told ahead of each that is wrong. */
  static void about(String words) {
    topic = words;
  }

  static void due(String call, long got, long want) {
    asked++;
    if (got != want) {
      wrong++;
      if (wrong <= 40) System.out.println(topic + call + " answered " + got + ", due is " + want);
    }
  }

  static void due(String call, boolean got, boolean want) {
    due(call, got ? 1 : 0, want ? 1 : 0);
  }

  static void holds(String what, boolean so) {
    asked++;
    if (!so) {
      wrong++;
      if (wrong <= 40) System.out.println(topic + what);
    }
  }

  static boolean allRight() {
    return wrong == 0;
  }

  static void finish() {
    System.out.println(asked + " answers asked for, " + wrong + " not as due");
    if (wrong != 0) System.exit(1);
  }

  /** Feeds a text, filled up with zero bytes to whole calls of twenty; answers the text's length. */
  static int feed(GraspJudge judge, String text) {
    int[] words = words(text);
    for (int i = 0; i < words.length; i += 5) {
      judge.feed(words[i], words[i + 1], words[i + 2], words[i + 3], words[i + 4]);
    }
    return text.length();
  }

  static int[] words(String text) {
    int calls = (text.length() + 19) / 20;
    int[] words = new int[5 * calls];
    for (int i = 0; i < 20 * calls; i++) {
      int sign = i < text.length() ? text.charAt(i) & 255 : 0;
      words[i / 4] |= sign << (24 - 8 * (i % 4));
    }
    return words;
  }

  static int plate(GraspJudge judge, String text) {
    return judge.plate(feed(judge, text));
  }

  static int orders(GraspJudge judge, String text) {
    return judge.orders(feed(judge, text));
  }

  static int loads(GraspJudge judge, String text) {
    return judge.loads(feed(judge, text));
  }
}
