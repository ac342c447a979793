import java.util.ArrayList;
import java.util.List;
import java.util.Random;

/** Random runs of calls, each answer set beside that of the slow model (all promises). */
public final class ModelTest {
  private static final String[] PLATES = {
    "0,0;6,0;6,3;3,3;3,6;0,6", "0,0;9,0;9,9;6,9;6,3;3,3;3,9;0,9", "0,0;8,0;8,2;4,6;0,6", "2,0;4,0;6,2;6,4;4,6;2,6;0,4;0,2",
    "0,0;9,0;9,9;0,9", "0,0;6,0;3,6", "0,0;8,0;0,8", "0,0;8,4;4,8", "1,1;9,5;5,9;1,7", "0,0;2,0;2,2;0,2", "0,3;3,0;9,6;6,9",
    "0,0;1,0;0,1", "0,4;4,0;8,4;4,8", "0,0;9,0;9,3;6,3;6,6;3,6;3,9;0,9", "0,0;8,6;2,8", "3,0;9,3;6,9;0,6"};

  private final Random random;
  private final GraspJudge judge = new GraspJudge();
  private final Model model = new Model();
  private final StringBuilder told = new StringBuilder();

  private ModelTest(long seed) {
    random = new Random(seed);
  }

  public static void main(String[] args) {
    int runs = args.length > 0 ? Integer.parseInt(args[0]) : 250;
    long from = args.length > 1 ? Long.parseLong(args[1]) : 1;
    for (long run = from; run < from + runs && Expect.allRight(); run++) {
      ModelTest test = new ModelTest(run);
      test.play(run % 10 == 0 ? 500 : 160);
      if (!Expect.allRight()) System.out.println("run " + run + ":" + test.told);
    }
    Expect.finish();
  }

  private void play(int calls) {
    for (int i = 0; i < calls && Expect.allRight(); i++) {
      int kind = random.nextInt(100);
      if (kind < 40) act();
      else if (kind < 43) text();
      else if (kind < 45) everything();
      else ask();
    }
  }

  private int below(int n) {
    return random.nextInt(n);
  }

  private int about(int least, int most) {
    return below(25) == 0 ? (below(2) == 0 ? least - 1 - below(3) : most + 1 + below(3)) : least + below(most - least + 1);
  }

  private int push() {
    switch (below(8)) {
      case 0: return 0;
      case 1: return about(-1000, 1000);
      default: return below(41) - 20;
    }
  }

  private void same(String call, long got, long want) {
    told.append(' ').append(call).append('=').append(got);
    Expect.due(call, got, want);
  }

  private void act() {
    int a = below(8);
    switch (below(16)) {
      case 0: case 1: case 2: case 3: case 4: case 5: case 6: putAnywhere(); break;
      case 7: same("take(" + a + ")", judge.take(a), model.take(a)); break;
      case 8: takeOne(); break;
      case 9: case 10: treadSomehow(); break;
      case 11: centreSomewhere(); break;
      case 12: same("turn()", judge.turn(), model.turn()); break;
      case 13: seedSomehow(); break;
      case 14: same("keep()", judge.keep(), model.keep()); break;
      default: if (below(3) == 0) same("undo()", judge.undo() ? 1 : 0, model.undo() ? 1 : 0);
    }
  }

  private void putAnywhere() {
    List<int[]> places = model.places();
    int e = about(0, 7);
    int k = about(0, 9);
    if (!places.isEmpty() && below(5) > 0) {
      int[] place = places.get(below(places.size()));
      e = place[0];
      k = place[1];
    }
    same("put(" + e + ", " + k + ")", judge.put(e, k), model.put(e, k));
  }

  private void takeOne() {
    if (model.count(2) == 0) return;
    int i = below(model.count(2));
    same("take(" + i + ")", judge.take(i), model.take(i));
  }

  private void treadSomehow() {
    int m = about(0, 3);
    int q = about(1, 3);
    same("tread(" + m + ", " + q + ")", judge.tread(m, q), model.tread(m, q));
  }

  private void centreSomewhere() {
    int x = about(0, 9);
    int y = about(0, 9);
    same("centre(" + x + ", " + y + ")", judge.centre(x, y), model.centre(x, y));
  }

  private void seedSomehow() {
    int x = about(0, 65535);
    same("seed(" + x + ")", judge.seed(x) ? 1 : 0, model.seed(x) ? 1 : 0);
  }

  // ---- texts ----

  private void feed(String text) {
    int[] w = Expect.words(text);
    for (int i = 0; i < w.length; i += 5) {
      same("feed(" + text + ")", judge.feed(w[i], w[i + 1], w[i + 2], w[i + 3], w[i + 4]),
          model.feed(w[i], w[i + 1], w[i + 2], w[i + 3], w[i + 4]));
    }
  }

  private void text() {
    if (below(3) == 0) feed(spoil("0123456789,;"));
    String text;
    switch (below(7)) {
      case 0: case 1:
        text = maybe(PLATES[below(PLATES.length)]);
        feed(text);
        same("plate()", judge.plate(text.length()), model.plate(text.length()));
        break;
      case 2:
        text = maybe(anyPlate());
        feed(text);
        same("plate()", judge.plate(text.length()), model.plate(text.length()));
        break;
      case 3: case 4:
        text = maybe(anyOrders());
        feed(text);
        same("orders()", judge.orders(text.length()), model.orders(text.length()));
        break;
      case 5:
        text = maybe(anyLoads());
        feed(text);
        same("loads()", judge.loads(text.length()), model.loads(text.length()));
        break;
      default:
        text = anyCheck();
        feed(text);
        int n = below(9) == 0 ? about(0, 12) : text.length();
        same("check(" + n + ")", judge.check(n), model.check(n));
    }
  }

  private String maybe(String text) {
    return below(3) == 0 ? spoil(text) : text;
  }

  private String spoil(String text) {
    StringBuilder b = new StringBuilder(text);
    String signs = "0123456789,;- aputkeredcn" + (char) 200 + (char) 0 + "A";
    for (int i = below(2); i >= 0 && b.length() > 1; i--) {
      int at = below(b.length());
      int how = below(4);
      if (how == 0) b.deleteCharAt(at);
      else if (how == 1) b.insert(at, signs.charAt(below(signs.length())));
      else if (how == 2) b.setCharAt(at, signs.charAt(below(signs.length())));
      else b.setLength(at + 1);
    }
    return b.toString();
  }

  private String anyPlate() {
    List<int[]> corners = new ArrayList<>();
    StringBuilder text = new StringBuilder();
    for (int tries = 0; tries < 200; tries++) {
      corners.clear();
      int n = 2 + below(8);
      int by = 1 + below(3);
      for (int i = 0; i < n; i++) corners.add(new int[] {by * below(9 / by + 1), by * below(9 / by + 1)});
      if (Model.isPlate(corners) || below(150) == 0) break;
    }
    for (int[] c : corners) text.append(text.length() > 0 ? ";" : "").append(c[0]).append(',').append(c[1]);
    return text.toString();
  }

  private String anyOrders() {
    StringBuilder text = new StringBuilder();
    int n = 1 + below(below(4) == 0 ? 15 : 5);
    for (int i = 0; i < n; i++) {
      text.append(i > 0 ? ";" : "");
      switch (below(6)) {
        case 0: text.append("take ").append(below(6)); break;
        case 1: text.append("tread ").append(below(4)).append(' ').append(1 + below(3)); break;
        case 2: text.append("centre ").append(below(10)).append(' ').append(below(11)); break;
        default: text.append("put ").append(below(5)).append(' ').append(1 + below(4));
      }
    }
    return text.length() > 120 ? text.substring(0, 120) : text.toString();
  }

  private String anyLoads() {
    StringBuilder text = new StringBuilder();
    int n = 1 + below(8);
    for (int i = 0; i < n; i++) {
      text.append(i > 0 ? ";" : "");
      for (int c = 0; c < 3; c++) text.append(c > 0 ? "," : "").append(n > 4 ? below(19) - 9 : below(1999) - 999);
    }
    return text.length() > 60 ? text.substring(0, 60) : text.toString();
  }

  private String anyCheck() {
    StringBuilder text = new StringBuilder();
    for (int i = 0; i < model.count(2); i++) text.append((char) model.finger(i, 0)).append((char) model.finger(i, 1));
    if (below(3) == 0) text.append((char) below(4));
    if (text.length() > 0 && below(3) == 0) text.setCharAt(below(text.length()), (char) below(5));
    if (text.length() > 12) text.setLength(12);
    return text.toString();
  }

  // ---- questions ----

  private void ask() {
    int a = push();
    int b = push();
    int c = push();
    String p = "(" + a + ", " + b + ", " + c;
    int w = about(0, 6);
    int i = about(0, 7);
    switch (below(24)) {
      case 0: w = about(0, 15); same("count(" + w + ")", judge.count(w), model.count(w)); break;
      case 1: same("corner(" + i + "," + w + ")", judge.corner(i, w), model.corner(i, w)); break;
      case 2: same("edge(" + i + "," + w + ")", judge.edge(i, w), model.edge(i, w)); break;
      case 3: i = about(0, 20); same("place(" + i + "," + w + ")", judge.place(i, w), model.place(i, w)); break;
      case 4: i = about(-2, 11); w = about(-2, 11); same("inside(" + i + "," + w + ")", judge.inside(i, w), model.inside(i, w)); break;
      case 5: same("finger(" + i + "," + w + ")", judge.finger(i, w), model.finger(i, w)); break;
      case 6: i = about(0, 11); same("wrench(" + i + "," + w + ")", judge.wrench(i, w), model.wrench(i, w)); break;
      case 7: w = about(0, 2); same("free(" + w + ")", judge.free(w), model.free(w)); break;
      case 8: i -= 1; w = about(0, 2); same("frees(" + i + "," + w + ")", judge.frees(i, w), model.frees(i, w)); break;
      case 9: same("held" + p + ")", judge.held(a, b, c), model.held(a, b, c)); break;
      case 10: w = about(0, 1); same("effort" + p + "," + w + ")", judge.effort(a, b, c, w), model.effort(a, b, c, w)); break;
      case 11: allHolders(a, b, c); break;
      case 12: same("weak(" + w + ")", judge.weak(w), model.weak(w)); break;
      case 13: w = about(0, 5); same("proof(" + w + ")", judge.proof(w), model.proof(w)); break;
      case 14: same("safe(" + i + ")", judge.safe(i), model.safe(i)); break;
      case 15: w = about(0, 1); same("slide(" + i + "," + w + ")", judge.slide(i, w), model.slide(i, w)); break;
      case 16: w = about(0, 1); same("rough(" + w + ")", judge.rough(w), model.rough(w)); break;
      case 17: i = about(0, 15); w = about(0, 15); same("opposite(" + i + "," + w + ")", judge.opposite(i, w), model.opposite(i, w)); break;
      case 18: a = about(-9, 9); b = about(-9, 9); w = about(0, 1); same("weight(" + a + "," + b + "," + w + ")", judge.weight(a, b, w), model.weight(a, b, w)); break;
      case 19: a = below(2) == 0 ? about(0, 10000) : below(8); same("tilt(" + a + ")", judge.tilt(a), model.tilt(a)); break;
      case 20: a = about(1, 60); b = below(2) == 0 ? about(0, 10000) : below(40); same("storm(" + a + "," + b + ")", judge.storm(a, b), model.storm(a, b)); break;
      case 21: same("load(" + w + ")", judge.load(w), model.load(w)); break;
      case 22: i = about(0, 19); w = about(0, 3); same("past(" + i + "," + w + ")", judge.past(i, w), model.past(i, w)); break;
      default: dear();
    }
  }

  private void allHolders(int a, int b, int c) {
    for (int k = -2; k < 4; k++) {
      int w = about(0, 2);
      same("holder(" + a + ", " + b + ", " + c + ", " + k + ", " + w + ")", judge.holder(a, b, c, k, w), model.holder(a, b, c, k, w));
    }
  }

  private void dear() {
    int w = below(4);
    int places = model.places().size();
    if (below(3) == 0) same("best(" + w + ")", judge.best(w), model.best(w));
    if (places < 14 && below(4) == 0) same("two(" + w + ")", judge.two(w), model.two(w));
    if (below(6) == 0) same("count(16)", judge.count(16), model.count(16));
  }

  private void everything() {
    for (int w = -1; w < 16; w++) same("count(" + w + ")", judge.count(w), model.count(w));
    for (int w = -1; w < 8; w++) {
      same("weak(" + w + ")", judge.weak(w), model.weak(w));
      same("proof(" + w + ")", judge.proof(w), model.proof(w));
      same("load(" + w + ")", judge.load(w), model.load(w));
      same("safe(" + w + ")", judge.safe(w), model.safe(w));
      same("free(" + w + ")", judge.free(w), model.free(w));
      for (int k = -1; k < 4; k++) same("frees(" + w + ", " + k + ")", judge.frees(w, k), model.frees(w, k));
      for (int k = -1; k < 3; k++) same("slide(" + w + ", " + k + ")", judge.slide(w, k), model.slide(w, k));
      for (int k = -1; k < 7; k++) same("finger(" + w + ", " + k + ")", judge.finger(w, k), model.finger(w, k));
    }
  }
}
