import java.util.Arrays;
import java.util.List;
import java.util.regex.Matcher;
import java.util.regex.Pattern;

/** FAULTS of texts by regular expressions: the longest beginning that a right text could have. */
final class Texts {
  private static final String CORNER = "[0-9],[0-9]";
  private static final String NUMBER = " [0-9]{1,2}";
  private static final String CLAUSE = "(?:(?:put|tread|centre)" + NUMBER + NUMBER + "|take" + NUMBER + ")";
  private static final String PUSH = "-?[0-9]{1,3},-?[0-9]{1,3},-?[0-9]{1,3}";
  private static final List<String> WORDS = Arrays.asList("put", "take", "tread", "centre");

  private Texts() { }

  static int plateFault(String text) {
    int at = stop(CORNER + "(?:;" + CORNER + "){0,7}", text);
    if (at < 0) return 0;
    boolean ninth = at < text.length() && Character.isDigit(text.charAt(at))
        && text.substring(0, at).matches("(?:" + CORNER + ";){8}");
    if (ninth) return -4000 - at;
    if (text.substring(0, at).matches("(?:" + CORNER + ";){8}")) return -1000 - at;
    if (text.substring(0, at).matches("(?:" + CORNER + ";){7}" + CORNER) && at < text.length() && text.charAt(at) == ';') {
      boolean digit = at + 1 < text.length() && Character.isDigit(text.charAt(at + 1));
      return (digit ? -4000 : -1000) - (at + 1);
    }
    return -1000 - at;
  }

  static int ordersFault(String text) {
    Matcher many = Pattern.compile("(?:" + CLAUSE + ";){12}").matcher(text);
    if (many.lookingAt()) return -4000 - many.end();
    int at = stop(CLAUSE + "(?:;" + CLAUSE + "){0,11}", text);
    if (at < 0) return 0;
    int begin = text.lastIndexOf(';', at - 1) + 1;
    if (text.substring(begin, at).matches("[a-z]*")) {
      int end = begin;
      while (end < text.length() && text.charAt(end) >= 'a' && text.charAt(end) <= 'z') end++;
      return -1000 - (WORDS.contains(text.substring(begin, end)) ? at : begin);
    }
    return text.substring(0, Math.min(text.length(), at + 1)).matches("(?s).*[0-9]{3}") ? -2000 - at : -1000 - at;
  }

  static int loadsFault(String text) {
    Matcher many = Pattern.compile("(?:" + PUSH + ";){6}").matcher(text);
    if (many.lookingAt()) return -4000 - many.end();
    int at = stop(PUSH + "(?:;" + PUSH + "){0,5}", text);
    if (at < 0) return 0;
    return text.substring(0, Math.min(text.length(), at + 1)).matches("(?s).*[0-9]{4}") ? -2000 - at : -1000 - at;
  }

  /** The first place at which the text leaves the form (its length: it ends too soon); -1: it is right. */
  private static int stop(String form, String text) {
    Pattern pattern = Pattern.compile(form);
    for (int i = 1; i <= text.length(); i++) {
      Matcher matcher = pattern.matcher(text.substring(0, i));
      if (!matcher.matches() && !matcher.hitEnd()) return i - 1;
    }
    return pattern.matcher(text).matches() ? -1 : text.length();
  }
}
