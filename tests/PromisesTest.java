/** Each promise by itself, with answers worked out by hand: ordinary inputs, the edges that are named, wrong inputs. */
public final class PromisesTest {
  private static final long NO = GraspJudge.NO_NUMBER;
  private static final int NONE = GraspJudge.NONE;
  private static final int LOWEST = Integer.MIN_VALUE;
  private static final int HIGHEST = Integer.MAX_VALUE;

  public static void main(String[] args) {
    newObject();
    feed();
    plate();
    orders();
    putAndTake();
    treadAndCentre();
    turn();
    past();
    loads();
    load();
    counts();
    plateQuestions();
    opposites();
    fingerAndWrench();
    free();
    frees();
    pushes();
    holders();
    weak();
    proof();
    safe();
    best();
    two();
    slide();
    rough();
    weight();
    tilt();
    storm();
    seed();
    keepAndUndo();
    check();
    Expect.finish();
  }

  private static void due(String call, long got, long want) {
    Expect.due(call, got, want);
  }

  /** Two fingers, one above the other on the first square: firm by tread 1 by 1. */
  private static GraspJudge pinch() {
    GraspJudge x = new GraspJudge();
    x.put(0, 2);
    x.put(2, 2);
    return x;
  }

  private static GraspJudge on(String plate) {
    GraspJudge x = new GraspJudge();
    Expect.plate(x, plate);
    return x;
  }

  // promise 1
  private static void newObject() {
    GraspJudge x = new GraspJudge();
    int[] want = {4, 32, 0, 0, 0, 0, 12, 1, 1, 2, 2, -2, -2, -2, 0, 1, 30};
    for (int i = 0; i < want.length; i++) due("new count(" + i + ")", x.count(i), want[i]);
    int[] corners = {0, 0, 4, 0, 4, 4, 0, 4};
    for (int i = 0; i < 8; i++) due("new corner", x.corner(i / 2, i % 2), corners[i]);
    due("new past", x.past(0, 0), NONE);
    due("new load(0)", x.load(0), 0);
    due("new undo", x.undo() ? 1 : 0, 0);
  }

  // promise 2
  private static void feed() {
    GraspJudge x = new GraspJudge();
    for (int i = 1; i <= 12; i++) due("feed " + i, x.feed(i, -1, HIGHEST, LOWEST, 0), 20 * i);
    due("thirteenth feed", x.feed(0, 0, 0, 0, 0), NONE);
    due("tape after it", x.count(14), 240);
    x = new GraspJudge();
    x.put(0, 1);
    x.put(1, 2);
    x.put(2, 3);
    due("highest byte first", x.feed(0x00010102, 0x02030000, 0, 0, 0), 20);
    due("check of six bytes", x.check(6), NONE);
    due("bytes above 127", x.feed(0x80000000, 0, 0, 0, 0), 20);
    due("check of one", x.check(1), 0);
  }

  // promise 3
  private static void plate() {
    GraspJudge x = new GraspJudge();
    due("plate, empty tape", x.plate(1), NONE);
    x.put(0, 1);
    x.tread(2, 3);
    x.centre(7, 8);
    x.seed(77);
    Expect.loads(x, "1,2,3");
    Expect.feed(x, "0,0;6,0;6,3;3,3;3,6;0,6 and more");
    due("plate(0)", x.plate(0), NONE);
    due("plate(61)", x.plate(61), NONE);
    due("plate(41)", x.plate(41), NONE);
    due("plate(-1)", x.plate(LOWEST), NONE);
    due("tape stays", x.count(14), 40);
    due("plate", x.plate(23), 6);
    int[] after = {6, 54, 0, 0, 0, 0, 18, 2, 3, 2, 2, -2, -2, -2, 0, 77};
    for (int i = 0; i < after.length; i++) due("told, count(" + i + ")", x.count(i), after[i]);
    due("told, past", x.past(0, 0), NONE);
    due("told, loads", x.load(0), 1);
    x.put(0, 1);
    x.centre(1, 1);
    due("fault", Expect.plate(x, "0,0;4,0;4,4;0.4"), -1013);
    due("all stays", x.count(0) * 1000 + x.count(2) * 100 + x.count(9) * 10 + x.past(0, 0), 6113);
    due("tape is empty", x.count(14), 0);
    due("plate of 60 bytes", Expect.plate(x, "0,0;4,0;4,4".concat(" ".repeat(49))), -1011);
    due("eight", Expect.plate(x, "2,0;4,0;6,2;6,4;4,6;2,6;0,4;0,2"), 8);
    due("three", Expect.plate(x, "0,0;1,0;0,1"), 3);
    due("no places", x.count(6), 0);
  }

  // promise 4
  private static void orders() {
    GraspJudge x = new GraspJudge();
    due("orders, empty tape", x.orders(1), NONE);
    Expect.feed(x, "put 0 2;put 2 2;tread 2 1;centre 9 0;take 0 and so on");
    due("orders(0)", x.orders(0), NONE);
    due("orders(121)", x.orders(121), NONE);
    due("orders(61)", x.orders(61), NONE);
    due("tape stays", x.count(14), 60);
    due("orders", x.orders(43), 5);
    due("empty then", x.count(14), 0);
    due("left", x.count(2), 1);
    due("which", x.finger(0, 0), 2);
    due("tread", x.count(7), 2);
    due("centre", x.count(9) * 10 + x.count(10), 90);
    int[] kinds = {1, 3, 2, 0, 0};
    for (int k = 0; k < 5; k++) due("past(" + k + ")", x.past(k, 0), kinds[k]);
    due("till one is refused", Expect.orders(x, "put 0 1;put 0 1;put 0 2"), 1);
    due("not the third", x.count(2), 2);
    due("first is refused", Expect.orders(x, "take 9"), 0);
    due("a tread refused", Expect.orders(x, "tread 4 1;tread 1 1"), 0);
    due("a centre refused", Expect.orders(x, "centre 0 0;centre 10 0"), 1);
    due("two digits", Expect.orders(x, "centre 08 09"), 1);
    due("they count", x.count(9) * 10 + x.count(10), 89);
    due("fault", Expect.orders(x, "tread 0 1;put"), -1013);
    due("nothing is done", x.count(7), 2);
    due("fault empties", x.count(14), 0);
  }

  // promises 5, 6
  private static void putAndTake() {
    GraspJudge x = new GraspJudge();
    int[][] wrong = {{-1, 1}, {4, 1}, {0, 0}, {0, 4}, {LOWEST, 1}, {HIGHEST, 1}, {0, LOWEST}, {0, HIGHEST}};
    for (int[] w : wrong) due("put(" + w[0] + ", " + w[1] + ")", x.put(w[0], w[1]), NONE);
    for (int i = 0; i < 6; i++) due("put " + i, x.put(i / 3, 1 + i % 3), i);
    due("seventh", x.put(2, 1), -3);
    due("one is there, ahead", x.put(1, 3), -2);
    due("no such place, ahead", x.put(1, 4), NONE);
    due("take(6)", x.take(6), NONE);
    due("take(-1)", x.take(-1), NONE);
    due("take(1)", x.take(1), 5);
    due("one less", x.finger(1, 1), 3);
    due("one less", x.finger(4, 1), 3);
    due("gone", x.finger(5, 0), NONE);
    due("the last", x.take(4), 4);
    due("put again", x.put(0, 2), 4);
    due("its edge", x.finger(4, 0) * 10 + x.finger(4, 1), 2);
    for (int left = 4; left >= 0; left--) due("take(0)", x.take(0), left);
    due("none left", x.take(0), NONE);
  }

  // promises 7, 8
  private static void treadAndCentre() {
    GraspJudge x = pinch();
    int[][] wrong = {{-1, 1}, {4, 1}, {0, 0}, {0, 4}, {LOWEST, HIGHEST}};
    for (int[] w : wrong) due("tread(" + w[0] + ", " + w[1] + ")", x.tread(w[0], w[1]), NONE);
    due("no tread in past", x.past(0, 0), 0);
    due("tread(2, 2)", x.tread(2, 2), 0);
    due("as told", x.count(7) * 10 + x.count(8), 22);
    due("in lowest terms", x.wrench(0, 0), 1);
    due("tread(0, 3)", x.tread(0, 3), 0);
    due("one force each", x.count(3), 2);
    due("N alone", x.wrench(0, 1), 1);
    due("tread(3, 1)", x.tread(3, 1), 0);
    due("fx", x.wrench(1, 0), -3);
    due("fy", x.wrench(1, 1), 1);
    int[][] off = {{-1, 0}, {10, 0}, {0, -1}, {0, 10}, {LOWEST, 0}, {0, HIGHEST}};
    for (int[] w : off) due("centre(" + w[0] + ", " + w[1] + ")", x.centre(w[0], w[1]), NONE);
    due("centre(9, 0)", x.centre(9, 0), 0);
    due("x, y", x.count(9) * 10 + x.count(10), 90);
    due("turning about it", x.wrench(0, 2), (2 - 9) * 1 - (0 - 0) * 3);
    due("centre(0, 9)", x.centre(0, 9), 0);
    due("turning about it", x.wrench(0, 2), 2 * 1 - (0 - 9) * 3);
  }

  // promise 9
  private static void turn() {
    GraspJudge x = new GraspJudge();
    due("turn, no fingers", x.turn(), 0);
    int[] corners = {9, 0, 9, 4, 5, 4, 5, 0};
    for (int i = 0; i < 8; i++) due("turned corner", x.corner(i / 2, i % 2), corners[i]);
    due("centre", x.count(9) * 10 + x.count(10), 72);
    x = pinch();
    x.centre(1, 3);
    due("turn, firm", x.turn(), 1);
    due("centre", x.count(9) * 10 + x.count(10), 61);
    due("edge stays", x.finger(1, 0) * 10 + x.finger(1, 1), 22);
    due("finger's x", x.finger(0, 2), 9);
    due("finger's y", x.finger(0, 3), 2);
    due("T", x.edge(0, 1), 1);
    due("past", x.past(0, 0), 4);
    due("past, firm", x.past(0, 2), 1);
    for (int i = 0; i < 3; i++) x.turn();
    due("round", x.corner(1, 0) * 1000 + x.corner(1, 1) * 100 + x.count(9) * 10 + x.count(10), 4013);
  }

  // promise 10
  private static void past() {
    GraspJudge x = pinch();
    int[][] rows = {{0, 2, 1, 3}, {0, 1, 0, 2}};
    for (int k = 0; k < 2; k++) for (int w = 0; w < 4; w++) due("past(" + k + ", " + w + ")", x.past(k, w), rows[k][w]);
    due("past(2, 0)", x.past(2, 0), NONE);
    due("past(-1, 0)", x.past(-1, 0), NONE);
    due("past(0, 4)", x.past(0, 4), NONE);
    due("past(0, -1)", x.past(0, -1), NONE);
    x.take(5);
    x.tread(9, 9);
    due("refused are not in it", x.past(2, 0), NONE);
    x.tread(0, 1);
    due("then", x.past(0, 0) * 1000 + x.past(0, 1) * 100 + x.past(0, 2) * 10 + x.past(0, 3), 2201);
    for (int i = 0; i < 18; i++) x.centre(i % 10, 0);
    due("the twentieth", x.past(19, 0), 0);
    due("no more", x.past(20, 0), NONE);
    x.take(0);
    due("the oldest fell off", x.past(19, 0), 2);
    due("the latest", x.past(0, 0) * 10 + x.past(0, 1), 11);
  }

  // promise 11
  private static void loads() {
    GraspJudge x = new GraspJudge();
    due("loads, empty tape", x.loads(1), NONE);
    Expect.feed(x, "1,2,3;-4,-50,999 more");
    due("loads(0)", x.loads(0), NONE);
    due("loads(61)", x.loads(61), NONE);
    due("loads(41)", x.loads(41), NONE);
    due("tape stays", x.count(14), 40);
    due("loads", x.loads(16), 2);
    due("empty then", x.count(14), 0);
    due("how many", x.load(0), 2);
    due("fault", Expect.loads(x, "1,1,1;2,2"), -1009);
    due("those before stay", x.load(0), 2);
    due("fault empties", x.count(14), 0);
    due("six", Expect.loads(x, "1,1,1;2,2,2;3,3,3;4,4,4;5,5,5;6,6,6"), 6);
    due("one instead", Expect.loads(x, "-0,00,000"), 1);
    due("how many", x.load(0), 1);
    x.put(0, 1);
    due("not in past", x.past(1, 0), NONE);
    due("a plate", Expect.plate(x, "0,0;4,0;0,4"), 3);
    due("they stay", x.load(0), 1);
  }

  // promise 12
  private static void load() {
    GraspJudge x = pinch();
    Expect.loads(x, "0,1,0;0,0,1;3,0,0");
    int[] want = {3, 7, 3, 1};
    for (int i = 0; i < 4; i++) due("load(" + i + ")", x.load(i), want[i]);
    due("sum", x.load(4), x.effort(3, 1, 1, 0));
    due("sum", x.load(5), x.effort(3, 1, 1, 1));
    due("load(6)", x.load(6), NO);
    due("load(-1)", x.load(-1), NO);
    x.take(1);
    // left: (1, 1, 2), (-1, 1, -2) hold what pushes down
    Expect.loads(x, "1,0,0;0,-3,0;-1,-1,-2;0,3,0");
    int[] part = {4, 6, 3, 1, -2, -2};
    for (int i = 0; i < 6; i++) due("part, load(" + i + ")", x.load(i), part[i]);
    Expect.loads(x, "0,-999,0;0,-999,0;0,-999,0;0,-999,0;0,-1,0");
    due("a sum beyond pushes", x.load(4), 3997);
    due("below its line", x.load(5), 1);
    Expect.loads(x, "1,2,3");
    for (int i = 2; i < 6; i++) due("none, load(" + i + ")", x.load(i), -2);
    due("none held", x.load(1), 0);
    Expect.loads(x, "1,0,0;-1,0,0");
    due("sum 0", x.load(4) * 10 + x.load(5), 1);
  }

  // promise 13
  private static void counts() {
    GraspJudge x = pinch();
    int[] want = {4, 32, 2, 4, 3, 1, 12, 1, 1, 2, 2, 3, 2, 3, 0, 1, 30};
    for (int i = 0; i < want.length; i++) due("count(" + i + ")", x.count(i), want[i]);
    due("count(17)", x.count(17), NONE);
    due("count(-1)", x.count(-1), NONE);
    due("count", x.count(HIGHEST), NONE);
    x.put(1, 2);
    due("still needed", x.count(11), 3);
    due("least", x.count(12) * 10 + x.count(13), 23);
    x.put(3, 2);
    due("none needed", x.count(11), 0);
    due("least, of two couples the lower", x.count(13), 3);
    x.take(0);
    due("needed now", x.count(11), 6);
    due("least now", x.count(13), 6);
    x.tread(0, 1);
    for (int i = 11; i < 14; i++) due("not firm", x.count(i), -2);
    due("m 0: opposite face to face", x.count(16), 6);
    x = on("0,0;9,0;9,9;6,9;6,3;3,3;3,9;0,9");
    due("places", x.count(6), 8 + 8 + 2 + 5 + 2 + 5 + 2 + 8);
    due("twice the area", x.count(1), 2 * (81 - 18));
  }

  // promises 14, 15, 16, 17
  private static void plateQuestions() {
    GraspJudge x = on("0,0;6,3;2,5");
    due("corner(2, 0)", x.corner(2, 0), 2);
    due("corner(2, 1)", x.corner(2, 1), 5);
    int[][] wrong = {{3, 0}, {-1, 0}, {0, 2}, {0, -1}, {HIGHEST, LOWEST}};
    for (int[] w : wrong) due("corner(" + w[0] + ", " + w[1] + ")", x.corner(w[0], w[1]), NONE);
    long[][] edges = {{2, 1, -1, 2, 3}, {-2, 1, -1, -2, 2}, {-2, -5, 5, -2, 1}};
    for (int e = 0; e < 3; e++) for (int w = 0; w < 5; w++) due("edge(" + e + ", " + w + ")", x.edge(e, w), edges[e][w]);
    int[][] none = {{3, 0}, {-1, 0}, {0, 5}, {0, -1}, {LOWEST, HIGHEST}};
    for (int[] w : none) due("edge(" + w[0] + ", " + w[1] + ")", x.edge(w[0], w[1]), NO);
    x.put(1, 1);
    int[][] places = {{0, 1, 2, 1, -2}, {0, 2, 4, 2, -2}, {1, 1, 4, 4, 0}};
    for (int i = 0; i < 3; i++) for (int w = 0; w < 5; w++) due("place(" + i + ", " + w + ")", x.place(i, w), places[i][w]);
    int[][] off = {{3, 0}, {-1, 0}, {0, 7}, {0, -1}, {HIGHEST, 0}};
    for (int[] w : off) due("place(" + w[0] + ", " + w[1] + ")", x.place(w[0], w[1]), NONE);
    insides();
  }

  private static void insides() {
    GraspJudge x = on("0,0;9,0;9,9;6,9;6,3;3,3;3,9;0,9");
    int[][] spots = {{1, 8, 1}, {4, 8, 0}, {4, 3, 2}, {3, 3, 2}, {4, 2, 1}, {-1, 9, 0}, {10, 0, 0}, {0, 0, 2}, {6, 6, 2},
      {4, 9, 0}, {1, 9, 2}, {20, 20, 0}, {-20, -20, 0}, {21, 0, NONE}, {0, 21, NONE}, {-21, 0, NONE}, {0, -21, NONE},
      {HIGHEST, 0, NONE}, {0, LOWEST, NONE}, {-3, 3, 0}, {8, 3, 1}, {-5, 9, 0}, {-5, 0, 0}};
    for (int[] s : spots) due("inside(" + s[0] + ", " + s[1] + ")", x.inside(s[0], s[1]), s[2]);
    x = on("0,0;5,3;0,9");
    due("only just within", x.inside(3, 2), 1);
    due("only just out", x.inside(2, 1), 0);
    x = on("9,0;9,9;4,3");
    due("only just out", x.inside(7, 1), 0);
    due("within", x.inside(7, 2), 1);
  }

  // promise 32, parts of 13 and 16
  private static void opposites() {
    GraspJudge x = new GraspJudge();
    // place 0 is (1, 0); places 3 to 5 (4, 1) to (4, 3); 6 to 8 (3, 4) to (1, 4); 9 to 11 (0, 3) to (0, 1)
    int[] want = {0, 0, 0, 0, 0, 1, 1, 1, 1, 0, 0, 1};
    for (int j = 0; j < 12; j++) due("opposite(0, " + j + ")", x.opposite(0, j), want[j]);
    due("how many", x.place(0, 5), 5);
    due("the first", x.place(0, 6), 5);
    int[][] wrong = {{12, 0}, {0, 12}, {-1, 0}, {0, -1}, {LOWEST, HIGHEST}};
    for (int[] w : wrong) due("opposite(" + w[0] + ", " + w[1] + ")", x.opposite(w[0], w[1]), NONE);
    x.tread(0, 1);
    due("straight across", x.opposite(0, 8), 1);
    due("slanting", x.opposite(0, 7), 0);
    due("one", x.place(0, 5), 1);
    x.tread(1, 3);
    due("q times along no more than m times across", x.opposite(0, 7), 1);
    x = on("0,0;4,0;0,4");
    due("the slope is not opposite by m 0", x.tread(0, 1) + x.place(0, 5), 0);
    due("none", x.place(0, 6), -2);
    x = on("0,0;9,0;9,9;6,9;6,3;3,3;3,9;0,9");
    x.tread(0, 1);
    due("back to back is not opposite", x.opposite(18, 29), 0);
    due("below the gap one", x.place(8, 5) * 100 + x.place(8, 6), 139);
    due("what is between is not asked", x.place(15, 5) * 100 + x.place(15, 6), 218);
  }

  // promises 18, 19
  private static void fingerAndWrench() {
    GraspJudge x = on("0,0;6,3;2,5");
    x.put(0, 2);
    x.tread(1, 2);
    int[] want = {0, 2, 4, 2, 2, 0};
    for (int w = 0; w < 6; w++) due("finger(0, " + w + ")", x.finger(0, w), want[w]);
    int[][] wrong = {{1, 0}, {-1, 0}, {0, 6}, {0, -1}};
    for (int[] w : wrong) due("finger(" + w[0] + ", " + w[1] + ")", x.finger(w[0], w[1]), NONE);
    // T (2, 1), N (-1, 2): 2 N + T = (0, 5), 2 N - T = (-4, 3), about (2, 2) from (4, 2)
    long[][] w = {{0, 1, 2, 0}, {-4, 3, 6, 0}};
    for (int j = 0; j < 2; j++) for (int i = 0; i < 4; i++) due("wrench(" + j + ", " + i + ")", x.wrench(j, i), w[j][i]);
    int[][] none = {{2, 0}, {-1, 0}, {0, 4}, {0, -1}, {HIGHEST, 0}};
    for (int[] n : none) due("wrench(" + n[0] + ", " + n[1] + ")", x.wrench(n[0], n[1]), NO);
    x.put(1, 1);
    due("of the second", x.wrench(3, 3), 1);
    x.tread(0, 2);
    due("one each", x.wrench(1, 3), 1);
    due("no third", x.wrench(2, 0), NO);
    due("forces", x.finger(1, 4), 1);
    x = pinch();
    x.put(1, 2);
    due("firm without it", x.finger(2, 5), 1);
    due("not without it", x.finger(0, 5), 0);
  }

  // promise 20
  private static void free() {
    GraspJudge x = new GraspJudge();
    push("none", x, 1, 0, 0);
    x.tread(0, 1);
    x.put(1, 1);
    // (-1, 0, -1): (0, 1, 0) makes 0 with it
    push("one", x, 0, 1, 0);
    x = new GraspJudge();
    x.tread(0, 1);
    x.put(0, 3);
    push("fx 0", x, 1, 0, 0);
    x.put(0, 1);
    // (0, 1, 1), (0, 1, -1): rank 2, last number not 0 is the first
    due("rank", x.count(4), 2);
    push("rank 2", x, 1, 0, 0);
    x = new GraspJudge();
    x.tread(0, 1);
    x.put(0, 1);
    x.put(2, 3);
    due("turned: rank 1", x.count(4), 1);
    push("rank 1", x, 1, 0, 0);
    x.put(1, 1);
    // (0, 1, -1), (0, -1, 1), (-1, 0, -1): the first two have no cross product
    push("rank 2 by the second couple", x, -1, 1, 1);
    x = on("0,0;6,3;2,5");
    x.tread(0, 1);
    x.put(0, 2);
    // (-1, 2, 4): (2, 1, 0)
    push("slanting", x, 2, 1, 0);
    x = new GraspJudge();
    x.put(0, 1);
    x.put(0, 3);
    due("rank", x.count(4), 3);
    x.put(1, 1);
    // (1, 1, 1), (-1, 1, -3), (1, 1, 3), (-1, 1, -1), (-1, 1, 1), (-1, -1, -3): 0 and 1 make (-2, 1, 1), which frees
    // neither way; 0 and 2 make (1, -1, 0), which does
    push("rank 3", x, 1, -1, 0);
    due("two frees", x.frees(-1, 0), 2);
    due("the lower one", x.frees(0, 0) * 100 + x.frees(0, 1) * 10 + x.frees(0, 2), -119);
    due("free(3)", x.free(3), NO);
    due("free(-1)", x.free(-1), NO);
    for (int j = 0; j < x.count(3); j++) {
      long makes = x.free(0) * x.wrench(j, 0) + x.free(1) * x.wrench(j, 1) + x.free(2) * x.wrench(j, 2);
      Expect.holds("no more than 0 with wrench " + j, makes <= 0);
    }
    due("firm", pinch().free(0), NO);
  }

  private static void push(String name, GraspJudge x, long fx, long fy, long t) {
    due(name + ", free(0)", x.free(0), fx);
    due(name + ", free(1)", x.free(1), fy);
    due(name + ", free(2)", x.free(2), t);
  }

  // promise 21
  private static void frees() {
    GraspJudge x = new GraspJudge();
    x.tread(0, 1);
    x.put(0, 1);
    x.put(1, 1);
    x.put(3, 1);
    // (0, 1, -1), (-1, 0, -1), (1, 0, -1): couples make (-1, 1, 1), (1, 1, 1), (0, -2, 0)
    due("rank", x.count(4), 3);
    due("how many", x.frees(-1, 0), 3);
    long[][] rows = {{-1, 1, 1}, {0, -1, 0}, {1, 1, 1}};
    for (int k = 0; k < 3; k++) for (int w = 0; w < 3; w++) due("frees(" + k + ", " + w + ")", x.frees(k, w), rows[k][w]);
    push("the first couple's", x, -1, 1, 1);
    int[][] wrong = {{3, 0}, {-1, 1}, {-1, 2}, {-2, 0}, {0, 3}, {0, -1}, {HIGHEST, 0}, {LOWEST, 0}};
    for (int[] w : wrong) due("frees(" + w[0] + ", " + w[1] + ")", x.frees(w[0], w[1]), NO);
    due("firm: none", pinch().frees(-1, 0), 0);
    due("firm: no first", pinch().frees(0, 0), NO);
    x.take(2);
    due("lower rank: none", x.frees(-1, 0), 0);
    due("lower rank: no first", x.frees(0, 0), NO);
  }

  // promises 22, 23
  private static void pushes() {
    GraspJudge x = pinch();
    due("held", x.held(5, -7, 100), 1);
    due("held", x.held(1000, -1000, 1000), 1);
    int[][] wrong = {{1001, 0, 0}, {0, 1001, 0}, {0, 0, 1001}, {-1001, 0, 0}, {0, -1001, 0}, {0, 0, -1001}, {LOWEST, 0, 0}};
    for (int[] w : wrong) {
      due("held out of bounds", x.held(w[0], w[1], w[2]), NONE);
      due("effort out of bounds", x.effort(w[0], w[1], w[2], 0), NO);
      due("holder out of bounds", x.holder(w[0], w[1], w[2], -1, 0), NO);
    }
    due("effort 1/2", x.effort(0, 0, 1, 0) * 10 + x.effort(0, 0, 1, 1), 12);
    due("effort 0/1", x.effort(0, 0, 0, 0) * 10 + x.effort(0, 0, 0, 1), 1);
    due("what 2", x.effort(0, 0, 1, 2), NO);
    due("what -1", x.effort(0, 0, 1, -1), NO);
    x.take(1);
    due("against it", x.held(0, -1, 0), 1);
    due("with it", x.held(0, 1, 0), 0);
    due("beside it", x.held(1, 0, 0), 0);
    due("no effort", x.effort(0, 1, 0, 0), NO);
    due("0 is held", x.held(0, 0, 0), 1);
    due("on the cone's edge", x.held(-3, -3, -6), 1);
    due("three times", x.effort(-3, -3, -6, 0), 3);
  }

  // promise 24
  private static void holders() {
    GraspJudge x = pinch();
    due("none for 0", x.holder(0, 0, 0, -1, 0), 0);
    due("none for 0", x.holder(0, 0, 0, 0, 0), NO);
    due("one", x.holder(-3, -3, -6, -1, 0), 1);
    due("which", x.holder(-3, -3, -6, 0, 0), 0);
    due("above", x.holder(-3, -3, -6, 0, 1), 3);
    due("below", x.holder(-3, -3, -6, 0, 2), 1);
    due("two", x.holder(0, -1, 0, -1, 0), 2);
    due("half", x.holder(0, -1, 0, 1, 1) * 10 + x.holder(0, -1, 0, 1, 2), 12);
    int[][] wrong = {{2, 0}, {-1, 1}, {-1, 2}, {-2, 0}, {0, 3}, {0, -1}, {HIGHEST, 0}};
    for (int[] w : wrong) due("holder of k " + w[0] + ", what " + w[1], x.holder(0, -1, 0, w[0], w[1]), NO);
    // wrenches (1,1,2) (-1,1,-2) (-1,-1,2) (1,-1,-2); against (1, 0, 0): 0 and 3, or 1 and 2 turned
    due("row", x.holder(1, 0, 0, 0, 0) * 10 + x.holder(1, 0, 0, 1, 0), 12);
    due("three", x.holder(1, 2, 0, -1, 0), 3);
    x.take(1);
    due("not held", x.holder(0, 1, 0, -1, 0), NO);
    // like sums: the fewest, then the least row
    x = new GraspJudge();
    x.tread(0, 1);
    x.put(0, 1);
    x.put(0, 2);
    x.put(0, 3);
    due("fewest of like effort", x.holder(0, -1, 0, -1, 0), 1);
    due("the middle one", x.holder(0, -1, 0, 0, 0), 1);
    due("a third part", x.holder(0, -3, -1, -1, 0), 2);
    due("the least row", x.holder(0, -3, -1, 0, 0) * 10 + x.holder(0, -3, -1, 1, 0), 2);
    due("its numbers", x.holder(0, -3, -1, 0, 1) * 10 + x.holder(0, -3, -1, 1, 1), 12);
  }

  // promise 25
  private static void weak() {
    GraspJudge x = pinch();
    long[] want = {2, 5, -2, -2, -1, 2, 4};
    for (int i = 0; i < 7; i++) due("weak(" + i + ")", x.weak(i), want[i]);
    due("weak(7)", x.weak(7), NO);
    due("weak(-1)", x.weak(-1), NO);
    x.put(1, 2);
    x.put(3, 2);
    // (+-1, +-1, +-2) all eight: a box; the least is 1 by 1
    long[] box = {1, 1, -1, 0, 0, 1, 6};
    for (int i = 0; i < 7; i++) due("box, weak(" + i + ")", x.weak(i), box[i]);
    x.tread(0, 1);
    for (int i = 0; i < 7; i++) due("not firm, weak(" + i + ")", x.weak(i), NO);
  }

  // promise 26
  private static void proof() {
    GraspJudge x = pinch();
    long[] want = {4, 15, 1, 1, 1, 1};
    for (int i = 0; i < 6; i++) due("proof(" + i + ")", x.proof(i), want[i]);
    due("proof(6)", x.proof(6), NO);
    due("proof(-1)", x.proof(-1), NO);
    x.put(1, 2);
    due("still the least bits", x.proof(1), 15);
    x.take(0);
    for (int i = 0; i < 6; i++) due("not firm, proof(" + i + ")", x.proof(i), NO);
    fiveAndSix();
    unlikeMultiples();
  }

  private static void fiveAndSix() {
    GraspJudge x = new GraspJudge();
    x.tread(0, 1);
    int[][] five = {{0, 1}, {0, 3}, {2, 2}, {1, 2}, {3, 2}};
    for (int[] f : five) x.put(f[0], f[1]);
    // (0,1,-1) (0,1,1) (0,-1,0) (-1,0,0) (1,0,0)
    due("five", x.proof(0) * 100 + x.proof(1), 531);
    for (int i = 2; i < 6; i++) due("not four", x.proof(i), -2);
    x.put(2, 1);
    due("five of six", x.proof(0) * 100 + x.proof(1), 531);
    x.take(2);
    due("not firm", x.proof(0), NO);
    x.put(2, 3);
    // (0,1,-1) (0,1,1) (-1,0,0) (1,0,0) (0,-1,-1) (0,-1,1): three couples, each turned
    due("six", x.proof(0) * 100 + x.proof(1), 663);
    due("not four", x.proof(2), -2);
  }

  private static void unlikeMultiples() {
    GraspJudge x = on("0,0;6,0;3,6");
    x.tread(1, 2);
    x.put(0, 1);
    x.put(1, 1);
    x.put(2, 2);
    // (1, 2, 0), (-1, 2, -4), three times (-1, 0, 0), (3, -4, 4)
    long[] want = {4, 23, 1, 1, 3, 1};
    for (int i = 0; i < 6; i++) due("unlike, proof(" + i + ")", x.proof(i), want[i]);
    long[] sum = new long[3];
    long common = 0;
    int seen = 0;
    for (int j = 0; j < x.count(3); j++) {
      if ((x.proof(1) >> j & 1) == 0) continue;
      long times = x.proof(2 + seen);
      for (int c = 0; c < 3; c++) sum[c] += times * x.wrench(j, c);
      Expect.holds("above 0", times > 0);
      common = Ratio.gcd(common, times);
      seen++;
    }
    for (int c = 0; c < 3; c++) due("they make 0", sum[c], 0);
    due("in lowest terms", common, 1);
  }

  // promise 27
  private static void safe() {
    GraspJudge x = pinch();
    int[] want = {1, 0, 0, 0, 0, 0, 0};
    for (int k = 0; k < 7; k++) due("safe(" + k + ")", x.safe(k), want[k]);
    due("safe(7)", x.safe(7), NONE);
    due("safe(-1)", x.safe(-1), NONE);
    x.put(1, 2);
    x.put(3, 2);
    due("four, one gone", x.safe(1), 1);
    due("four, two gone", x.safe(2), 0);
    due("all gone", x.safe(4), 0);
    due("more than all", x.safe(6), 0);
    due("none there", new GraspJudge().safe(0), 0);
  }

  // promise 28
  private static void best() {
    GraspJudge x = new GraspJudge();
    for (int i = 0; i < 4; i++) due("none, best(" + i + ")", x.best(i), -2);
    due("best(4)", x.best(4), NO);
    due("best(-1)", x.best(-1), NO);
    x.put(0, 2);
    // with (2, 0) all five across are firm but the ends; (2, 4) is the best
    due("edge", x.best(0), 2);
    due("step", x.best(1), 2);
    due("weakest", x.best(2) * 10 + x.best(3), 25);
    x.put(0, 1);
    due("asked anew", x.best(0) * 10 + x.best(1), bestByTrial(x));
    due("the same", x.best(2) * 10 + x.best(3), 25);
    x.put(0, 3);
    x.put(1, 1);
    x.put(1, 2);
    x.put(1, 3);
    due("a seventh", x.best(0) * 10 + x.best(1), 23);
    due("its weakest", x.best(2) * 10 + x.best(3), 12);
    due("it does not stay", x.count(2), 6);
    x.tread(0, 1);
    due("by none", x.best(0), -2);
  }

  /** Puts each place by hand and looks which WEAKEST is the greatest. */
  private static long bestByTrial(GraspJudge x) {
    long most = 0;
    long below = 1;
    long at = -2;
    for (int i = 0; i < x.count(6); i++) {
      if (x.place(i, 4) != -2) continue;
      int e = x.place(i, 0);
      int k = x.place(i, 1);
      int f = x.put(e, k);
      if (x.count(5) == 1 && x.weak(0) * below > most * x.weak(1)) {
        most = x.weak(0);
        below = x.weak(1);
        at = 10 * e + k;
      }
      x.take(f);
    }
    return at;
  }

  // promise 29
  private static void two() {
    GraspJudge x = new GraspJudge();
    // couples strictly in each other's cones; of (2, 0), (2, 4) and (4, 2), (0, 2) the first
    long[] want = {18, 1, 7, 2, 5};
    for (int i = 0; i < 5; i++) due("two(" + i + ")", x.two(i), want[i]);
    due("two(5)", x.two(5), NO);
    due("two(-1)", x.two(-1), NO);
    long above = x.two(3);
    long below = x.two(4);
    int one = (int) x.two(1);
    int other = (int) x.two(2);
    x.put(x.place(one, 0), x.place(one, 1));
    x.put(x.place(other, 0), x.place(other, 1));
    due("weakest", x.weak(0), above);
    due("weakest", x.weak(1), below);
    due("fingers aside", x.two(0), 18);
    x.tread(0, 1);
    due("none", x.two(0), 0);
    for (int i = 1; i < 5; i++) due("none, two(" + i + ")", x.two(i), -2);
    x.tread(3, 1);
    due("rougher: more", x.two(0), 46);
  }

  // promise 30
  private static void slide() {
    GraspJudge x = pinch();
    // against (2, 4) from (1, 0) to (3, 0)
    due("least", x.slide(0, 0), 1);
    due("greatest", x.slide(0, 1), 3);
    x.put(0, 1);
    due("another is there", x.slide(0, 0), 2);
    int[][] wrong = {{3, 0}, {-1, 0}, {0, 2}, {0, -1}};
    for (int[] w : wrong) due("slide(" + w[0] + ", " + w[1] + ")", x.slide(w[0], w[1]), NONE);
    x.tread(0, 1);
    due("not firm", x.slide(0, 0), -2);
    due("no such one, ahead", x.slide(0, 5), NONE);
    x = on("0,0;9,0;9,2;0,2");
    x.put(0, 4);
    x.put(2, 5);
    // 2 high: by 1 by 1 within one step of (4, 2), not two
    due("least", x.slide(0, 0), 3);
    due("greatest", x.slide(0, 1), 5);
  }

  // promise 31
  private static void rough() {
    GraspJudge x = pinch();
    due("straight across", x.rough(0) * 10 + x.rough(1), 13);
    due("what 2", x.rough(2), NONE);
    due("what -1", x.rough(-1), NONE);
    x.take(1);
    x.put(2, 1);
    // from (2, 0) to (3, 4): more than 1 by 4
    due("one aside", x.rough(0) * 10 + x.rough(1), 13);
    x.take(0);
    x.put(0, 1);
    due("two aside: 1 by 2 is its edge", x.rough(0) * 10 + x.rough(1), 23);
    due("it does not change tread", x.count(7) * 10 + x.count(8), 11);
    x.take(0);
    due("one finger", x.rough(0), -2);
    due("one finger", x.rough(1), -2);
    x = new GraspJudge();
    int[][] smooth = {{0, 1}, {0, 3}, {2, 2}, {1, 2}, {3, 2}};
    for (int[] s : smooth) x.put(s[0], s[1]);
    due("smooth", x.rough(0) * 10 + x.rough(1), 1);
  }

  // promise 33
  private static void weight() {
    GraspJudge x = pinch();
    due("down", x.weight(0, -1, 0) * 10 + x.weight(0, -1, 1), 11);
    due("nine down", x.weight(0, -9, 0), 9);
    due("nothing", x.weight(0, 0, 0) * 10 + x.weight(0, 0, 1), 1);
    int[][] wrong = {{10, 0, 0}, {-10, 0, 0}, {0, 10, 0}, {0, -10, 0}, {0, 0, 2}, {0, 0, -1}, {LOWEST, HIGHEST, 0}};
    for (int[] w : wrong) due("weight out of bounds", x.weight(w[0], w[1], w[2]), NO);
    x.take(1);
    due("held from below", x.weight(0, -1, 0), 1);
    due("not from above", x.weight(0, 1, 0), NO);
    // middle (4/3, 4/3); a finger at (1, 0) and one at (2, 0), smooth, (0, 1, -1) and (0, 1, 0) about (2, 2)
    x = on("0,0;4,0;0,4");
    x.tread(0, 1);
    x.put(0, 1);
    x.put(0, 2);
    due("between", x.weight(0, -3, 0) * 10 + x.weight(0, -3, 1), 31);
    x.take(1);
    due("not upright", x.weight(0, -3, 0), NO);
    x.put(0, 3);
    due("a fraction", x.weight(0, -1, 0) * 10 + x.weight(0, -1, 1), 11);
    x = on("0,0;4,0;0,4");
    x.tread(0, 1);
    x.put(0, 1);
    x.put(2, 2);
    due("not by these", x.weight(-1, 1, 0), NO);
    x.tread(1, 1);
    // (-1, 1, -3) and (1, -1, 2) are to make (1, -1, 4/3): 2/3 and 5/3
    due("a fraction", x.weight(-1, 1, 0) * 10 + x.weight(-1, 1, 1), 73);
  }

  // promise 34
  private static void tilt() {
    GraspJudge x = pinch();
    due("all", x.tilt(10000), 255);
    due("limit 0", x.tilt(0), 0);
    due("limit 1: the straight ones", x.tilt(1), 0b01010101);
    due("limit 2", x.tilt(2), 255);
    due("tilt(-1)", x.tilt(-1), NONE);
    due("tilt(10001)", x.tilt(10001), NONE);
    x.take(1);
    due("from below: down, and just aslant", x.tilt(10000), 1 << 6);
    x.tread(2, 1);
    due("rougher", x.tilt(10000), 1 << 6);
  }

  // promise 35
  private static void storm() {
    GraspJudge x = pinch();
    due("all held", x.storm(60, 10000), 60);
    due("the seed stays", x.count(15), 1);
    due("storm(0, 1)", x.storm(0, 1), NONE);
    due("storm(61, 1)", x.storm(61, 1), NONE);
    due("storm(1, -1)", x.storm(1, -1), NONE);
    due("storm(1, 10001)", x.storm(1, 10001), NONE);
    int within = 0;
    int s = 1;
    for (int i = 0; i < 60; i++) {
      int[] p = new int[3];
      for (int c = 0; c < 3; c++) {
        s = (25173 * s + 13849) % 65536;
        p[c] = c < 2 ? s % 21 - 10 : s % 101 - 50;
      }
      if (x.effort(p[0], p[1], p[2], 0) <= 14 * x.effort(p[0], p[1], p[2], 1)) within++;
    }
    due("by a limit", x.storm(60, 14), within);
    Expect.holds("neither none nor all", within > 0 && within < 60);
    due("again the same", x.storm(60, 14), within);
  }

  // promise 36
  private static void seed() {
    GraspJudge x = pinch();
    Expect.due("seed(0)", x.seed(0), true);
    due("X", x.count(15), 0);
    Expect.due("seed(65535)", x.seed(65535), true);
    Expect.due("seed(65536)", x.seed(65536), false);
    Expect.due("seed(-1)", x.seed(-1), false);
    due("X stays", x.count(15), 65535);
    int differ = 0;
    for (int i = 0; i < 40; i++) {
      x.seed(i * 1000);
      differ |= 1 << x.storm(5, 14);
    }
    Expect.holds("storms differ by seeds", Integer.bitCount(differ) > 1);
  }

  // promises 37, 38
  private static void keepAndUndo() {
    GraspJudge x = pinch();
    Expect.due("undo", x.undo(), false);
    Expect.loads(x, "1,2,3;4,5,6");
    x.seed(9);
    x.centre(1, 1);
    due("keep", x.keep(), 2);
    x.tread(3, 1);
    x.take(0);
    x.seed(10);
    Expect.loads(x, "1,1,1");
    Expect.plate(x, "0,0;6,0;0,6");
    Expect.feed(x, "tape");
    Expect.due("undo", x.undo(), true);
    int[] want = {4, 32, 2, 4, 3, 1, 12, 1, 1, 1, 1, 3, 2, 3, 20, 9};
    for (int i = 0; i < want.length; i++) due("undone, count(" + i + ")", x.count(i), want[i]);
    due("loads", x.load(0), 2);
    due("past", x.past(0, 0) * 100 + x.past(2, 0) * 10 + x.past(3, 0), 3 * 100 + 0 * 10 + NONE);
    due("finger", x.finger(0, 0) * 10 + x.finger(1, 0), 2);
    x.turn();
    Expect.due("undo again", x.undo(), true);
    due("as it was kept", x.corner(1, 0), 4);
    x.take(1);
    due("keep anew", x.keep(), 1);
    x.put(3, 3);
    x.undo();
    due("the later one", x.count(2), 1);
    due("two(0) is asked anew", x.two(0), 18);
    x = pinch();
    Expect.loads(x, "0,0,0;0,0,0;0,0,0;0,0,0;0,0,0;0,7,0");
    x.keep();
    Expect.loads(x, "1,1,1;1,1,1;1,1,1;1,1,1;1,1,1;1,1,1");
    x.undo();
    due("all loads are back", x.load(2) * 10 + x.load(3), 71);
    due("and their sum", x.load(4) * 10 + x.load(5), 71);
    for (int i = 0; i < 20; i++) x.tread(1, 1);
    x.keep();
    for (int i = 0; i < 20; i++) x.centre(1, 1);
    x.undo();
    for (int k = 0; k < 20; k++) due("all past is back, past(" + k + ", 0)", x.past(k, 0), 2);
    due("rank then", x.past(19, 3), 3);
  }

  // promise 39
  private static void check() {
    GraspJudge x = pinch();
    due("check(0)", x.check(0), NONE);
    due("check(1), empty tape", x.check(1), -2);
    x.feed(0x00020202, 0, 0, 0, 0);
    due("check(13)", x.check(13), -2);
    due("check(-1)", x.check(-1), -2);
    due("tape stays", x.count(14), 20);
    due("right", x.check(4), NONE);
    due("empty then", x.count(14), 0);
    x.feed(0x00020202, 0, 0, 0, 0);
    due("fewer", x.check(3), NONE);
    x.feed(0x00020202, 0, 0, 0, 0);
    due("behind the last nothing is", x.check(12), 4);
    due("empty then", x.count(14), 0);
    int[] wrong = {0x01020202, 0x00030202, 0x00020002, 0x00020203};
    for (int i = 0; i < 4; i++) {
      x.feed(wrong[i], 0, 0, 0, 0);
      due("wrong at " + i, x.check(4), i);
    }
    x.feed(0x01020202, 0, 0, 0, 0);
    due("nothing told is right", x.check(0), NONE);
    due("empty then", x.count(14), 0);
  }
}
