import java.lang.reflect.InvocationTargetException;
import java.lang.reflect.Method;
import java.util.Arrays;
import java.util.HashMap;
import java.util.List;
import java.util.Map;

/** A judge and a run of calls on it; each call that is refused is seen to change nothing (but the tape, where told). */
final class Play {
  private static final Map<String, Method> CALLS = new HashMap<>();
  private static final List<String> READERS = List.of("plate", "orders", "loads", "check");
  private static final List<String> DOERS = List.of("put", "take", "tread", "centre", "turn", "seed", "keep", "undo");

  static {
    for (Method method : GraspJudge.class.getMethods()) {
      if (method.getDeclaringClass() == GraspJudge.class) CALLS.put(method.getName(), method);
    }
  }

  private final GraspJudge judge = new GraspJudge();
  private String told = "";

  static Play fresh() {
    return new Play();
  }

  /** Two fingers, one above the other on the first plate: firm by 1 by 1. */
  static Play pinch() {
    return fresh().puts(0, 2, 2, 2);
  }

  /** The eight wrenches (1 or -1, 1 or -1, 2 or -2). */
  static Play box() {
    return pinch().puts(1, 2, 3, 2);
  }

  static Play on(String plate) {
    Play play = fresh();
    play.plate(plate.split(";").length, plate);
    return play;
  }

  /** Edge and step of one finger after another. */
  Play puts(int... places) {
    for (int i = 0; i < places.length; i += 2) due(answer("count", 2), "put", places[i], places[i + 1]);
    return this;
  }

  Play takes(int... fingers) {
    for (int finger : fingers) due(answer("count", 2) - 1, "take", finger);
    return this;
  }

  Play tread(int m, int q) {
    return due(0, "tread", m, q);
  }

  Play centre(int x, int y) {
    return due(0, "centre", x, y);
  }

  long answer(String call, int... with) {
    Object[] all = new Object[with.length];
    for (int i = 0; i < with.length; i++) all[i] = with[i];
    try {
      Object answer = CALLS.get(call).invoke(judge, all);
      return answer instanceof Boolean ? ((Boolean) answer ? 1 : 0) : ((Number) answer).longValue();
    } catch (InvocationTargetException | IllegalAccessException e) {
      throw new IllegalStateException(call + Arrays.toString(with) + " in" + told, e);
    }
  }

  Play due(long want, String call, int... with) {
    String before = look();
    long tape = answer("count", 14);
    long got = answer(call, with);
    String text = call + Arrays.toString(with).replace('[', '(').replace(']', ')');
    Expect.due(told + " " + text, got, want);
    if (isRefused(call, got)) Expect.holds(told + " " + text + " changed something", before.equals(look()));
    if (!call.equals("feed")) {
      boolean read = READERS.contains(call) && got != (call.equals("check") ? -2 : -1);
      Expect.due(told + " " + text + ": the tape", answer("count", 14), read ? 0 : tape);
    }
    if (READERS.contains(call) || DOERS.contains(call)) told += " " + text;
    return this;
  }

  private static boolean isRefused(String call, long got) {
    boolean yesOrNo = CALLS.get(call).getReturnType() == boolean.class;
    return yesOrNo ? got == 0 : got < 0;
  }

  /** The answers of one call by what 0, 1, 2 and so on, which stands behind the other arguments. */
  Play row(String call, int[] with, long... want) {
    int[] all = Arrays.copyOf(with, with.length + 1);
    for (int what = 0; what < want.length; what++) {
      all[with.length] = what;
      due(want[what], call, all);
    }
    return this;
  }

  /** The same answer is due for each of several ways to ask, each as many arguments as the call has. */
  Play each(long want, String call, int... arguments) {
    int many = CALLS.get(call).getParameterCount();
    for (int i = 0; i + many <= arguments.length; i += many) due(want, call, Arrays.copyOfRange(arguments, i, i + many));
    return this;
  }

  static int[] at(int... with) {
    return with;
  }

  Play feed(String text) {
    told += " \"" + text + "\"";
    Expect.feed(judge, text);
    return this;
  }

  Play plate(long want, String text) {
    return feed(text).due(want, "plate", text.length());
  }

  Play orders(long want, String text) {
    return feed(text).due(want, "orders", text.length());
  }

  Play loads(long want, String text) {
    return feed(text).due(want, "loads", text.length());
  }

  Play check(long want, int... bytes) {
    StringBuilder text = new StringBuilder();
    for (int b : bytes) text.append((char) b);
    return feed(text.toString()).due(want, "check", bytes.length);
  }

  /** All that can be seen of what is kept and undone. */
  String look() {
    StringBuilder all = new StringBuilder();
    for (int i = 0; i < 16; i++) if (i != 14) all.append(judge.count(i)).append(' ');
    for (int i = 0; i < 16; i++) all.append(judge.corner(i / 2, i % 2)).append(' ');
    for (int i = 0; i < 12; i++) all.append(judge.finger(i / 2, i % 2)).append(' ');
    for (int i = 0; i < 80; i++) all.append(judge.past(i / 4, i % 4)).append(' ');
    for (int i = 0; i < 6; i++) all.append(judge.load(i)).append(' ');
    return all.toString();
  }
}
