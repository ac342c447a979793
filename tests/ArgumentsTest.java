import java.lang.reflect.Method;
import java.lang.reflect.Modifier;
import java.util.Arrays;
import java.util.Random;

/** Any arguments in any state: no call throws (LANGUAGE.md, rule 7), and one that is refused changes nothing. */
public final class ArgumentsTest {
  private static final int[] EDGES = {Integer.MIN_VALUE, Integer.MIN_VALUE + 1, -1001, -21, -10, -3, -2, -1, 0, 1, 2, 3, 4, 5, 6,
    7, 8, 9, 10, 11, 12, 13, 20, 21, 59, 60, 61, 71, 72, 119, 120, 121, 240, 1000, 1001, 10001, 65536,
    1 << 30, Integer.MAX_VALUE - 1, Integer.MAX_VALUE};

  public static void main(String[] args) throws Exception {
    Method[] calls = Arrays.stream(GraspJudge.class.getDeclaredMethods())
        .filter(m -> Modifier.isPublic(m.getModifiers()))
        .sorted((a, b) -> a.getName().compareTo(b.getName())).toArray(Method[]::new);
    Random random = new Random(3);
    for (int run = 0; run < 400; run++) {
      GraspJudge judge = new GraspJudge();
      for (int i = 0; i < 512; i++) {
        Method call = calls[random.nextInt(calls.length)];
        Object[] with = new Object[call.getParameterCount()];
        boolean wild = random.nextInt(3) == 0;
        for (int k = 0; k < with.length; k++) {
          with[k] = wild ? EDGES[random.nextInt(EDGES.length)] : random.nextInt(5) - (random.nextInt(9) == 0 ? 1 : 0);
        }
        String before = look(judge);
        Object answer = call.invoke(judge, with);
        Expect.holds(call.getName() + Arrays.toString(with) + " answered " + answer + " and changed something",
            !isRefused(call, answer) || before.equals(look(judge)));
      }
    }
    Expect.finish();
  }

  private static boolean isRefused(Method call, Object answer) {
    if (answer instanceof Boolean) return !(Boolean) answer;
    long number = ((Number) answer).longValue();
    // CHECK answers NONE where all is right, and empties the tape then
    return number >= -9 && number <= -1 && !call.getName().equals("check") || number == GraspJudge.NO_NUMBER;
  }

  private static String look(GraspJudge judge) {
    StringBuilder all = new StringBuilder();
    for (int i = 0; i < 16; i++) all.append(judge.count(i)).append(' ');
    for (int i = 0; i < 16; i++) all.append(judge.corner(i / 2, i % 2)).append(' ');
    for (int i = 0; i < 12; i++) all.append(judge.finger(i / 2, i % 2)).append(' ');
    for (int i = 0; i < 80; i++) all.append(judge.past(i / 4, i % 4)).append(' ');
    for (int i = 0; i < 6; i++) all.append(judge.load(i)).append(' ');
    return all.toString();
  }
}
