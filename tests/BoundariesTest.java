/** Each sentence of promises 1 to 39: too small, too large, empty, full, a wrap-around, a refused call. */
public final class BoundariesTest {
  private static final long NO = GraspJudge.NO_NUMBER;
  private static final int NONE = GraspJudge.NONE;
  private static final int LOWEST = Integer.MIN_VALUE;
  private static final int HIGHEST = Integer.MAX_VALUE;
  private static final String EIGHT = "2,0;4,0;6,2;6,4;4,6;2,6;0,4;0,2";
  private static final String YOKE = "0,0;9,0;9,9;6,9;6,1;3,1;3,9;0,9";
  private static final String WHOLE = "0,0;9,0;9,9;0,9";

  private static Document page;

  public static void main(String[] args) {
    Runnable[] promises = {BoundariesTest::newObject, BoundariesTest::feed, BoundariesTest::plate, BoundariesTest::orders,
      BoundariesTest::put, BoundariesTest::take, BoundariesTest::tread, BoundariesTest::centre, BoundariesTest::turn,
      BoundariesTest::past, BoundariesTest::loads, BoundariesTest::load, BoundariesTest::count, BoundariesTest::corner,
      BoundariesTest::edge, BoundariesTest::place, BoundariesTest::inside, BoundariesTest::finger, BoundariesTest::wrench,
      BoundariesTest::free, BoundariesTest::frees, BoundariesTest::held, BoundariesTest::effort, BoundariesTest::holder,
      BoundariesTest::weak, BoundariesTest::proof, BoundariesTest::safe, BoundariesTest::best, BoundariesTest::two,
      BoundariesTest::slide, BoundariesTest::rough, BoundariesTest::opposite, BoundariesTest::weight, BoundariesTest::tilt,
      BoundariesTest::storm, BoundariesTest::seed, BoundariesTest::keep, BoundariesTest::undo, BoundariesTest::check};
    for (int i = 0; i < promises.length; i++) {
      page = Document.promise(i + 1);
      promises[i].run();
      page.finish();
    }
    manyCalls();
    Expect.finish();
  }

  private static void says(String words) {
    page.says(words);
  }

  private static Play fresh() {
    return Play.fresh();
  }

  private static Play pinch() {
    return Play.pinch();
  }

  private static Play on(String plate) {
    return Play.on(plate);
  }

  private static int[] at(int... with) {
    return with;
  }

  /** Six fingers, below and to the right; not firm. */
  private static Play six() {
    return fresh().puts(0, 1, 0, 2, 0, 3, 1, 1, 1, 2, 1, 3);
  }

  private static Play filled(int bytes) {
    Play play = fresh();
    for (int i = 20; i <= bytes; i += 20) play.due(i, "feed", 0, 0, 0, 0, 0);
    return play;
  }

  private static void newObject() {
    says("The PLATE as at first, no FINGERS.");
    fresh().row("count", at(), 4, 32, 0, 0, 0, 0, 12, 1, 1, 2, 2, -2, -2, -2, 0, 1, 30).due(NONE, "finger", 0, 0)
        .due(NONE, "past", 0, 0).due(0, "load", 0).due(0, "undo").row("corner", at(1), 4, 0).row("corner", at(2), 4, 4);
  }

  private static void feed() {
    says("Twenty bytes come behind the tape, the highest of each int first: how many it has;");
    Play play = pinch().due(20, "feed", 0x00020202, 0, 0, 0, 0).due(NONE, "check", 4);
    play.due(20, "feed", 0x00020203, 0, 0, 0, 0).due(3, "check", 4);
    // 0,0;4,0;4,4;0,4;0,2 and the like, in one call and in two; signs above 127 are not below 0
    fresh().due(20, "feed", 0x302c303b, 0x342c303b, 0x342c343b, 0x302c343b, 0x302c323b).due(-5019, "plate", 19);
    fresh().due(20, "feed", 0x302c303b, 0x342c303b, 0x342c343b, 0x312c343b, 0x302c333b)
        .due(40, "feed", 0x302c323b, 0x312c3161, 0, 0, 0).due(7, "plate", 27);
    fresh().due(20, "feed", -1, -1, -1, -1, -1).due(-1000, "plate", 20).due(20, "feed", LOWEST, HIGHEST, 0, 0, 0).due(20, "count", 14);
    says("NONE if that would be more than 240.");
    filled(220).due(240, "feed", 1, 2, 3, 4, 5).each(NONE, "feed", 0, 0, 0, 0, 0).due(240, "count", 14).each(NONE, "feed", 1, 1, 1, 1, 1)
        .due(-1000, "plate", 60).due(20, "feed", 0, 0, 0, 0, 0);
    // what was refused left no trace: the last twenty bytes are the twelfth call's
    Play full = pinch();
    for (int i = 1; i <= 12; i++) full.due(20 * i, "feed", 0x00020202, 0, 0, 0, 0);
    full.due(NONE, "feed", 0x01010101, 0, 0, 0, 0).due(240, "count", 14).due(NONE, "check", 4);
  }

  private static void plate() {
    says("A PLATE by the first n bytes of the tape (1 to 60; empty then): how many CORNERS;");
    fresh().plate(3, "0,0;1,0;0,1").due(0, "count", 14).plate(8, EIGHT).due(8, "count", 0);
    fresh().feed("0,0;9,0;0,9;0,5 and much more than is asked for").due(3, "plate", 11).due(0, "count", 14).due(NONE, "plate", 11);
    filled(240).due(-1000, "plate", 1);
    filled(60).due(-1000, "plate", 60);
    says("a FAULT: -1000 times its number, less its place (all stays);");
    Play play = pinch().centre(7, 7).plate(-1000, "x").plate(-1031, EIGHT + "x").plate(-4032, EIGHT + ";1").plate(-5003, "0,0");
    play.due(2, "count", 2).due(4, "count", 0).due(7, "count", 9).row("past", at(0), 3, 2, 1, 3).due(1, "count", 5);
    says("NONE: no such n, it has not so many (the tape stays).");
    fresh().each(NONE, "plate", 0, 1, -1, 60, 61, LOWEST, HIGHEST).due(0, "count", 14);
    filled(20).each(NONE, "plate", 0, 21, -1, 60, 61, LOWEST, HIGHEST).due(20, "count", 14).due(-1000, "plate", 20);
    filled(240).each(NONE, "plate", 0, 61, 240, -20).due(240, "count", 14);
  }

  private static void orders() {
    says("ORDERS by the first n bytes of the tape (1 to 120; empty then): how many were done;");
    fresh().orders(1, "tread 2 1").due(0, "count", 14).orders(12, "tread 1 1;".repeat(11) + "tread 03 2").due(3, "count", 7);
    fresh().feed("put 0 1;put 0 2;put 0 3").due(2, "orders", 15).due(2, "count", 2).due(0, "count", 14).due(NONE, "orders", 1);
    fresh().orders(0, "take 0").due(0, "count", 14).orders(1, "put 0 1;take 1").orders(2, "take 0;put 0 1;put 0 1");
    says("a FAULT (nothing is done);");
    pinch().orders(-1014, "tread 2 1;take").due(2, "count", 2).orders(-1017, "tread 2 1;take 0;")
        .orders(-2017, "tread 2 1;take 000").orders(-1010, "tread 2 1;x").due(1, "count", 7).orders(-4084, "take 0;".repeat(12) + "take 0").row("past", at(0), 0, 2, 1, 3);
    says("NONE: as above.");
    fresh().each(NONE, "orders", 0, 1, -1, 120, 121, LOWEST, HIGHEST);
    filled(100).each(NONE, "orders", 0, 101, 120, -1, 121, LOWEST, HIGHEST).due(100, "count", 14).due(-1000, "orders", 100);
    filled(240).each(NONE, "orders", 0, 121, 240).due(240, "count", 14).due(-1000, "orders", 120).due(0, "count", 14);
  }

  private static void put() {
    says("A FINGER comes to step k of an EDGE: its number;");
    fresh().due(0, "put", 0, 1).due(1, "put", 3, 3).due(2, "put", 0, 3).due(2, "finger", 2, 4).row("finger", at(1), 3, 3, 0, 1);
    on(WHOLE).due(0, "put", 0, 1).due(1, "put", 3, 8).each(NONE, "put", 3, 9, 4, 1);
    says("-2: one is there (ahead of -3);");
    fresh().puts(0, 1).due(-2, "put", 0, 1);
    six().each(-2, "put", 0, 1, 1, 3);
    says("-3: there are six;");
    six().each(-3, "put", 2, 1, 3, 3).takes(0).due(5, "put", 0, 1).due(-3, "put", 2, 1);
    says("NONE: no such PLACE.");
    six().each(NONE, "put", -1, 1, 4, 1, 0, 0, 0, 4, 0, -1, LOWEST, 1, HIGHEST, 1, 0, LOWEST, 0, HIGHEST);
    fresh().each(NONE, "put", -1, 1, 4, 1, 0, 0, 0, 4, LOWEST, LOWEST, HIGHEST, HIGHEST);
    on("0,0;1,0;0,1").each(NONE, "put", 0, 0, 0, 1, 1, 1, 2, 1);
    on(EIGHT).each(NONE, "put", 8, 1, 7, 2).due(0, "put", 7, 1).plate(3, "0,0;9,0;0,9").each(NONE, "put", 3, 1, 7, 1);
  }

  private static void take() {
    says("A FINGER is taken away: how many are left;");
    six().due(5, "take", 5).due(4, "take", 0).due(3, "take", 1).due(2, "take", 0).due(1, "take", 1).due(0, "take", 0).due(0, "count", 3);
    says("NONE: no such one.");
    six().each(NONE, "take", 6, -1, LOWEST, HIGHEST).takes(5).due(NONE, "take", 5);
    fresh().each(NONE, "take", 0, 1, -1);
  }

  private static void tread() {
    says("TREAD: 0;");
    fresh().each(0, "tread", 0, 1, 3, 3, 0, 3, 3, 1, 1, 1, 1, 1).due(1, "count", 7).due(NONE, "past", 6, 0).due(2, "past", 5, 0);
    says("NONE: no such ones.");
    fresh().each(NONE, "tread", -1, 1, 4, 1, 1, 0, 1, 4, LOWEST, 1, HIGHEST, 1, 1, LOWEST, 1, HIGHEST, 4, 4).due(NONE, "past", 0, 0);
  }

  private static void centre() {
    says("CENTRE: 0;");
    fresh().each(0, "centre", 0, 0, 9, 9, 9, 0, 0, 9, 0, 9).due(0, "count", 9).due(9, "count", 10).due(3, "past", 4, 0).due(NONE, "past", 5, 0);
    says("NONE: no such ones.");
    fresh().each(NONE, "centre", -1, 0, 10, 0, 0, -1, 0, 10, LOWEST, 0, HIGHEST, 0, 0, LOWEST, 0, HIGHEST, 10, 10).due(NONE, "past", 0, 0);
  }

  private static void turn() {
    says("A TURN: whether it is FIRM then (1, 0).");
    fresh().due(0, "turn").puts(0, 2).due(0, "turn").puts(2, 2).due(1, "turn").tread(0, 1).due(0, "turn").row("corner", at(0), 0, 0);
    pinch().due(1, "turn").row("weak", at(), 2, 5, -2, -2, 1, 2, 4).due(1, "turn").row("weak", at(), 2, 5, -2, -2, -1, 2, 4);
  }

  private static void past() {
    says("PAST, k ago (0: the latest), what 0 its number as told above, 1 FINGERS, 2 whether FIRM (1, 0), 3 RANK then;");
    Play play = pinch().row("past", at(0), 0, 2, 1, 3).row("past", at(1), 0, 1, 0, 2);
    for (int i = 0; i < 18; i++) play.centre(2, 2);
    play.row("past", at(18), 0, 2, 1, 3).row("past", at(19), 0, 1, 0, 2).due(1, "turn").row("past", at(0), 4, 2, 1, 3)
        .row("past", at(1), 3, 2, 1, 3).row("past", at(19), 0, 2, 1, 3).takes(0, 0).row("past", at(0), 1, 0, 0, 0)
        .row("past", at(19), 3, 2, 1, 3);
    says("NONE: no such ones.");
    fresh().each(NONE, "past", 0, 0, 0, 3, -1, 0);
    play.each(NONE, "past", 20, 0, -1, 0, 0, 4, 0, -1, LOWEST, 0, HIGHEST, 0, 0, LOWEST, 0, HIGHEST, 1 << 30, 0, 1 << 29, 0);
    pinch().each(NONE, "past", 2, 0, 19, 0);
  }

  private static void loads() {
    says("LOADS by the first n bytes of the tape (1 to 60; empty then): how many;");
    fresh().loads(1, "1,1,1").due(0, "count", 14).loads(6, "1,1,1;".repeat(5) + "1,1,1").due(6, "load", 0).loads(2, "1,1,1;2,2,2")
        .due(2, "load", 0);
    fresh().feed("1,2,3;4,5,6").due(1, "loads", 5).due(0, "count", 14).due(1, "load", 0);
    fresh().loads(5, "-999,-999,-999;".repeat(3) + "1,1,1;11,11,-11").due(5, "load", 0);
    says("a FAULT (those before stay);");
    fresh().puts(0, 2).loads(2, "0,-7,0;-1,-1,-2").loads(-1000, "x").loads(-1006, "1,1,1;").loads(-2003, "1111,1,1")
        .loads(-4036, "1,1,1;".repeat(6)).row("load", at(), 2, 3, 7, 1, 8, 1);
    says("NONE: as above.");
    fresh().each(NONE, "loads", 0, 1, -1, 60, 61, LOWEST, HIGHEST);
    filled(40).each(NONE, "loads", 0, 41, 60, 61, -1, LOWEST, HIGHEST).due(40, "count", 14);
    filled(240).each(NONE, "loads", 0, 61).due(240, "count", 14).due(-1000, "loads", 60).due(0, "count", 14);
  }

  private static void load() {
    says("0 how many LOADS, 1 those that are HELD (bits), 2 the greatest EFFORT of these above, 3 below the line (-2: none is),");
    fresh().row("load", at(), 0, 0, -2, -2, 0, 1);
    pinch().loads(6, "0,0,1;0,1,0;3,0,0;0,0,0;0,0,-5;1,1,1").row("load", at(), 6, 63, 3, 1);
    pinch().loads(2, "0,0,5;0,0,1").row("load", at(), 2, 3, 5, 2);
    fresh().loads(2, "0,0,0;1,0,0").row("load", at(), 2, 1, 0, 1, -2, -2).loads(2, "1,0,0;0,1,0").row("load", at(), 2, 0, -2, -2, -2, -2);
    says("4 EFFORT of all LOADS' sum above, 5 below the line (-2: not HELD);");
    pinch().loads(3, "0,0,1;0,0,-1;0,0,1").due(1, "load", 4).due(2, "load", 5).loads(2, "5,6,7;-5,-6,-7").due(0, "load", 4).due(1, "load", 5);
    fresh().puts(0, 2).loads(2, "1,0,0;-1,-1,0").row("load", at(), 2, 0, -2, -2, 1, 1).loads(2, "0,-1,0;0,1,0").row("load", at(), 2, 1, 1, 1, 0, 1);
    says("NO_NUMBER for others.");
    fresh().each(NO, "load", 6, -1, LOWEST, HIGHEST);
    pinch().loads(1, "1,1,1").each(NO, "load", 6, -1, LOWEST, HIGHEST);
  }

  private static void count() {
    says("0 CORNERS, 1 twice the area, 2 FINGERS, 3 WRENCHES, 4 RANK, 5 whether FIRM (1, 0), 6 PLACES, 7 m, 8 q, 9 CENTRE's x, 10 its y,");
    on(WHOLE).row("count", at(), 4, 162, 0, 0, 0, 0, 32, 1, 1, 2, 2);
    on("0,0;1,0;0,1").row("count", at(), 3, 1, 0, 0, 0, 0, 0, 1, 1, 2, 2);
    on(EIGHT).row("count", at(), 8, 56, 0, 0, 0, 0, 8, 1, 1, 2, 2);
    six().row("count", at(), 4, 32, 6, 12, 3, 0, 12, 1, 1, 2, 2).tread(0, 3).centre(0, 9).row("count", at(), 4, 32, 6, 6, 3, 0, 12, 0, 3, 0, 9);
    says("11 NEEDED (bits; -2: not FIRM), 12 how many LEAST has (-2: not FIRM), 13 LEAST (bits; -2),");
    fresh().due(-2, "count", 11).due(-2, "count", 12).due(-2, "count", 13);
    six().due(-2, "count", 11).due(-2, "count", 12).due(-2, "count", 13).takes(0).puts(2, 2).due(32, "count", 11).due(2, "count", 12)
        .due(1 + 32, "count", 13);
    Play.box().due(0, "count", 11).due(2, "count", 12).due(3, "count", 13);
    says("14 bytes of the tape, 15 X, 16 couples of PLACES OPPOSITE;");
    filled(240).due(240, "count", 14).due(1, "count", 15).due(1, "seed", 0).due(0, "count", 15).due(1, "seed", 65535).due(65535, "count", 15);
    on("0,0;1,0;0,1").due(0, "count", 16);
    on("0,0;2,0;2,2;0,2").due(6, "count", 16).tread(0, 1).due(2, "count", 16).tread(1, 2).due(2, "count", 16).tread(3, 1).due(6, "count", 16);
    on(WHOLE).tread(0, 1).due(16, "count", 16);
    on(YOKE).tread(0, 1).due(couplesByHand(on(YOKE).tread(0, 1)), "count", 16).tread(3, 1).due(couplesByHand(on(YOKE).tread(3, 1)), "count", 16);
    says("NONE for others.");
    fresh().each(NONE, "count", 17, -1, LOWEST, HIGHEST);
  }

  private static long couplesByHand(Play play) {
    long couples = 0;
    for (int i = 0; i < 44; i++) {
      long partners = 0;
      for (int j = 0; j < 44; j++) partners += play.answer("opposite", i, j);
      play.due(partners, "place", i, 5);
      couples += partners;
    }
    return couples / 2;
  }

  private static void corner() {
    says("CORNER i, what 0 x, 1 y;");
    on(EIGHT).row("corner", at(0), 2, 0).row("corner", at(7), 0, 2);
    on("0,0;9,0;0,9").row("corner", at(2), 0, 9);
    says("NONE: no such ones.");
    on(EIGHT).each(NONE, "corner", 8, 0, -1, 0, 0, 2, 0, -1, LOWEST, 0, HIGHEST, 0, 0, LOWEST, 0, HIGHEST);
    on("0,0;9,0;0,9").each(NONE, "corner", 3, 0, 7, 1, 2, 2);
    // a plate with fewer corners told behind one with more
    on(EIGHT).plate(3, "0,0;9,0;0,9").each(NONE, "corner", 3, 0, 7, 0);
  }

  private static void edge() {
    says("Of an EDGE, what 0, 1 T's x, y, 2, 3 N's, 4 STEPS;");
    on(EIGHT).row("edge", at(0), 1, 0, 0, 1, 2).row("edge", at(7), 1, -1, 1, 1, 2);
    on("0,0;9,0;0,9").row("edge", at(1), -1, 1, -1, -1, 9).row("edge", at(2), 0, -1, 1, 0, 9);
    says("NO_NUMBER: no such ones.");
    on(EIGHT).each(NO, "edge", 8, 0, -1, 0, 0, 5, 0, -1, LOWEST, 0, HIGHEST, 0, 0, LOWEST, 0, HIGHEST);
    on(EIGHT).plate(3, "0,0;9,0;0,9").each(NO, "edge", 3, 0, 7, 4);
  }

  private static void place() {
    says("PLACE i, what 0 EDGE, 1 step, 2 x, 3 y,");
    fresh().row("place", at(0), 0, 1, 1, 0).row("place", at(11), 3, 3, 0, 1);
    says("4 the FINGER there (-2: none),");
    six().due(0, "place", 0, 4).due(5, "place", 5, 4).due(-2, "place", 6, 4).takes(0).due(-2, "place", 0, 4).due(4, "place", 5, 4)
        .puts(0, 1).due(5, "place", 0, 4);
    says("5 with how many PLACES it is OPPOSITE, 6 the first of them (-2);");
    // (1, 0): (4, 3), three above, (0, 1)
    fresh().due(5, "place", 0, 5).due(5, "place", 0, 6).due(0, "place", 11, 6).tread(0, 1).due(1, "place", 0, 5).due(8, "place", 0, 6)
        .due(0, "place", 8, 6);
    on("0,0;4,0;0,4").tread(0, 1).due(0, "place", 0, 5).due(-2, "place", 0, 6);
    on("0,0;2,0;0,1").tread(3, 1).due(0, "place", 0, 5).due(-2, "place", 0, 6);
    says("NONE: no such ones.");
    fresh().each(NONE, "place", 12, 0, -1, 0, 0, 7, 0, -1, LOWEST, 0, HIGHEST, 0, 0, LOWEST, 0, HIGHEST, 12, 4, 12, 5, 12, 6);
    on("0,0;1,0;0,1").each(NONE, "place", 0, 0, 0, 4, 0, 5, 0, 6);
    on(YOKE).due(0, "place", 0, 0).plate(3, "0,0;2,0;0,1").each(NONE, "place", 1, 0, 43, 0);
  }

  private static void inside() {
    says("Whether (x, y) (-20 to 20 each) is out of the PLATE (0), within (1), on an EDGE (2);");
    fresh().each(0, "inside", -20, -20, 20, 20, -20, 20, 20, -20, 5, 2, -1, 2, 2, 5, 2, -1, -1, 0, 5, 0, -1, 4, 5, 4, 5, 5)
        .each(1, "inside", 1, 1, 3, 3, 2, 2).each(2, "inside", 0, 0, 4, 0, 4, 4, 0, 4, 2, 0, 4, 2, 2, 4, 0, 2);
    // in line with edges and corners, but beyond them; in the gap; at its corners
    on(YOKE).each(0, "inside", 4, 5, 5, 9, 4, 9, -1, 1, 10, 1, -20, 9, 20, 9, -5, 0).each(1, "inside", 1, 1, 8, 1, 1, 8, 7, 8)
        .each(2, "inside", 6, 9, 6, 1, 3, 1, 3, 9, 4, 1, 6, 5, 3, 5, 1, 9, 7, 9);
    on("0,0;5,3;0,9").each(1, "inside", 3, 2, 1, 1, 1, 7).each(0, "inside", 2, 1, 5, 2, 5, 4, 1, 8).each(2, "inside", 5, 3, 0, 5);
    on("0,0;1,0;0,1").each(2, "inside", 0, 0, 1, 0, 0, 1).each(0, "inside", 1, 1, -1, 0, 0, -1, 2, 0);
    says("NONE: no such ones.");
    fresh().each(NONE, "inside", 21, 0, -21, 0, 0, 21, 0, -21, LOWEST, 0, HIGHEST, 0, 0, LOWEST, 0, HIGHEST, 21, 21);
  }

  private static void finger() {
    says("Of a FINGER, what 0 EDGE, 1 step, 2 x, 3 y, 4 how many FORCES, 5 whether it is FIRM without it (1, 0);");
    pinch().row("finger", at(0), 0, 2, 2, 0, 2, 0).row("finger", at(1), 2, 2, 2, 4, 2, 0).puts(1, 2).due(1, "finger", 2, 5)
        .due(0, "finger", 0, 5).puts(3, 2).due(1, "finger", 0, 5).tread(0, 1).due(1, "finger", 0, 4).due(0, "finger", 0, 5);
    fresh().puts(0, 2).due(0, "finger", 0, 5);
    six().row("finger", at(5), 1, 3, 4, 3, 2, 0);
    says("NONE: no such ones.");
    fresh().each(NONE, "finger", 0, 0, 0, 5, -1, 0);
    six().each(NONE, "finger", 6, 0, -1, 0, 0, 6, 0, -1, LOWEST, 0, HIGHEST, 0, 0, LOWEST, 0, HIGHEST).takes(5).due(NONE, "finger", 5, 0);
  }

  private static void wrench() {
    says("WRENCH j, what 0 fx, 1 fy, 2 t, 3 its FINGER;");
    six().row("wrench", at(0), 1, 1, 1, 0).row("wrench", at(11), -1, -1, -1, 5);
    six().tread(0, 1).row("wrench", at(5), -1, 0, 1, 5).due(NO, "wrench", 6, 0);
    says("NO_NUMBER: no such ones.");
    fresh().each(NO, "wrench", 0, 0, 0, 3, -1, 0);
    six().each(NO, "wrench", 12, 0, -1, 0, 0, 4, 0, -1, LOWEST, 0, HIGHEST, 0, 0, LOWEST, 0, HIGHEST);
  }

  private static void free() {
    says("The FREEING PUSH, what 0 fx, 1 fy, 2 t;");
    fresh().row("free", at(), 1, 0, 0).puts(0, 2).row("free", at(), -2, 0, 1);
    // (1, 1, 1) .. below and (-1, 1, .), (-1, -1, .) at the right: (1, -1, 0) makes no more than 0 with each
    six().row("free", at(), 1, -1, 0);
    says("NO_NUMBER: it is FIRM, no such what.");
    pinch().row("free", at(), NO, NO, NO).each(NO, "free", 3, -1, LOWEST, HIGHEST).takes(0).due(2, "free", 0);
    fresh().each(NO, "free", 3, -1, LOWEST, HIGHEST);
  }

  private static void frees() {
    says("FREES: k -1: how many (what 0 alone);");
    six().due(1, "frees", -1, 0).each(NO, "frees", -1, 1, -1, 2, -1, -1, -1, 3);
    pinch().due(0, "frees", -1, 0).each(NO, "frees", -1, 1, -1, 2);
    fresh().due(0, "frees", -1, 0).due(NO, "frees", -1, 1);
    says("the k-th (0 on), what 0 fx, 1 fy, 2 t;");
    six().row("frees", at(0), 1, -1, 0);
    // (0, 1, -1), (-1, 0, -1), (1, 0, -1)
    fresh().tread(0, 1).puts(0, 1, 1, 1, 3, 1).due(3, "frees", -1, 0).row("frees", at(0), -1, 1, 1).row("frees", at(1), 0, -1, 0)
        .row("frees", at(2), 1, 1, 1).each(NO, "frees", 3, 0, 3, 1, 0, 3, 0, -1);
    says("NO_NUMBER: not so many, no such ones.");
    six().each(NO, "frees", 1, 0, -2, 0, 0, 3, 0, -1, LOWEST, 0, HIGHEST, 0, 0, LOWEST, 0, HIGHEST);
    pinch().each(NO, "frees", 0, 0, 1, 0);
    fresh().each(NO, "frees", 0, 0, 0, 1, 0, 2);
  }

  private static void held() {
    says("Whether a PUSH is HELD (1, 0);");
    fresh().due(1, "held", 0, 0, 0).each(0, "held", 1, 0, 0, 0, 1, 0, 0, 0, 1, 1000, 1000, 1000);
    pinch().each(1, "held", 1000, 1000, 1000, -1000, 1000, -1000, 0, 0, 1000);
    says("NONE: no such one.");
    fresh().each(NONE, "held", 1001, 0, 0, -1001, 0, 0, 0, 1001, 0, 0, -1001, 0, 0, 0, 1001, 0, 0, -1001);
    pinch().each(NONE, "held", LOWEST, 0, 0, HIGHEST, 0, 0, 0, LOWEST, 0, 0, HIGHEST, 0, 0, 0, LOWEST, 0, 0, HIGHEST);
  }

  private static void effort() {
    says("EFFORT of a PUSH, what 0 above, 1 below the line;");
    fresh().row("effort", at(0, 0, 0), 0, 1);
    pinch().row("effort", at(0, 0, 0), 0, 1).row("effort", at(0, 0, 1), 1, 2).row("effort", at(-1000, -1000, 1000), 2500, 1)
        .row("effort", at(0, 0, 999), 999, 2);
    says("NO_NUMBER: it is not HELD, no such ones.");
    fresh().each(NO, "effort", 1, 0, 0, 0, 0, 1, 0, 1, 0, 0, 0, 2, 0, 0, 0, -1);
    pinch().each(NO, "effort", 1001, 0, 0, 0, 0, -1001, 0, 0, 0, 0, 1001, 1, 0, 0, 1, 2, 0, 0, 1, -1, LOWEST, 0, 0, 0,
        0, HIGHEST, 0, 0, 0, 0, 0, LOWEST, 0, 0, 0, HIGHEST);
  }

  private static void holder() {
    says("HOLDERS of a PUSH: k -1: how many;");
    fresh().due(0, "holder", 0, 0, 0, -1, 0);
    pinch().due(0, "holder", 0, 0, 0, -1, 0).due(1, "holder", -1, -1, -2, -1, 0).due(2, "holder", 0, -1, 0, -1, 0)
        .due(3, "holder", 1, 2, 0, -1, 0);
    says("k (0 on) what 0 the WRENCH, 1 its number above, 2 below the line (k -1: what 0 alone);");
    pinch().row("holder", at(0, -1, 0, 1), 1, 1, 2).row("holder", at(1, 2, 0, 2), 3, 1, 1)
        .each(NO, "holder", 0, -1, 0, -1, 1, 0, -1, 0, -1, 2, 0, -1, 0, -1, -1, 0, 0, 0, -1, 1);
    says("NO_NUMBER: it is not HELD, not so many, no such ones.");
    fresh().each(NO, "holder", 1, 0, 0, -1, 0, 1, 0, 0, 0, 0, 0, 0, 0, 0, 0);
    pinch().each(NO, "holder", 0, -1, 0, 2, 0, 0, -1, 0, 0, 3, 0, -1, 0, 0, -1, 0, -1, 0, -2, 0, 1001, 0, 0, -1, 0,
        0, -1001, 0, -1, 0, 0, 0, 1001, -1, 0, 0, -1, 0, HIGHEST, 0, 0, -1, 0, LOWEST, 0, 0, -1, 0, 0, HIGHEST, 1, 2, 0, 3, 0);
  }

  private static void weak() {
    says("WEAKEST, what 0 above, 1 below the line; THE WEAK SIDE, 2 n1, 3 n2, 4 n3, 5 its offset; 6 how many SIDES there are (unlike ones);");
    pinch().row("weak", at(), 2, 5, -2, -2, -1, 2, 4);
    Play.box().row("weak", at(), 1, 1, -1, 0, 0, 1, 6);
    says("NO_NUMBER: it is not FIRM, no such what.");
    fresh().row("weak", at(), NO, NO, NO, NO, NO, NO, NO, NO);
    six().row("weak", at(), NO, NO, NO, NO, NO, NO, NO);
    pinch().each(NO, "weak", 7, -1, LOWEST, HIGHEST);
  }

  private static void proof() {
    says("PROOF, what 0 how many, 1 which (bits), 2 + j the number of the j-th of four (-2: they are not four);");
    pinch().row("proof", at(), 4, 15, 1, 1, 1, 1, NO);
    fresh().tread(0, 1).puts(0, 1, 0, 3, 2, 2, 1, 2, 3, 2).row("proof", at(), 5, 31, -2, -2, -2, -2, NO);
    fresh().tread(0, 1).puts(0, 1, 0, 3, 1, 2, 3, 2, 2, 1, 2, 3).row("proof", at(), 6, 63, -2, -2, -2, -2, NO);
    says("NO_NUMBER: it is not FIRM, no such ones (j 0 to 3).");
    fresh().row("proof", at(), NO, NO, NO, NO, NO, NO, NO);
    six().row("proof", at(), NO, NO, NO, NO, NO, NO, NO);
    pinch().each(NO, "proof", 6, -1, LOWEST, HIGHEST);
  }

  private static void safe() {
    says("SAFE by k (0 to 6): 1, 0;");
    Play.box().row("safe", at(), 1, 1, 0);
    fresh().puts(0, 1, 0, 2, 0, 3, 2, 1, 2, 2, 2, 3).row("safe", at(), 1, 1, 1, 0, 0, 0, 0);
    says("NONE: no such k.");
    fresh().each(NONE, "safe", 7, -1, LOWEST, HIGHEST);
    pinch().each(NONE, "safe", 7, -1, LOWEST, HIGHEST);
    says("(k above FINGERS: all are gone.)");
    pinch().due(0, "safe", 2).due(0, "safe", 3).due(0, "safe", 6);
    fresh().due(0, "safe", 0).due(0, "safe", 6);
  }

  private static void best() {
    says("BEST, what 0 EDGE, 1 step, 2 WEAKEST above, 3 below the line;");
    fresh().puts(0, 2).row("best", at(), 2, 2, 2, 5);
    six().row("best", at(), 2, 3, 1, 2).due(6, "count", 2).due(-3, "put", 2, 3);
    bestByHand(six().takes(0));
    bestByHand(pinch().takes(1).puts(2, 3));
    bestByHand(on("0,0;6,0;6,3;3,3;3,6;0,6").tread(1, 2).puts(0, 2, 4, 1));
    // asked anew after each change
    fresh().row("best", at(), -2).puts(0, 2).row("best", at(), 2, 2).takes(0).row("best", at(), -2).puts(0, 1).row("best", at(), 2, 3)
        .tread(0, 1).row("best", at(), -2).tread(1, 1).row("best", at(), 2, 3);
    says("-2: there is none;");
    fresh().row("best", at(), -2, -2, -2, -2);
    on("0,0;1,0;0,1").row("best", at(), -2, -2, -2, -2);
    on("0,0;2,0;2,2;0,2").puts(0, 1, 1, 1, 2, 1, 3, 1).row("best", at(), -2, -2, -2, -2);
    says("NO_NUMBER: no such what.");
    fresh().each(NO, "best", 4, -1, LOWEST, HIGHEST);
    pinch().each(NO, "best", 4, -1, LOWEST, HIGHEST);
  }

  /** Puts a further finger at each place and looks at WEAKEST. */
  private static void bestByHand(Play play) {
    int next = (int) play.answer("count", 2);
    long[] found = {-2, -2, -2, -2};
    for (int i = 0; i < play.answer("count", 6); i++) {
      int edge = (int) play.answer("place", i, 0);
      int step = (int) play.answer("place", i, 1);
      if (play.answer("put", edge, step) < 0) continue;
      long above = play.answer("weak", 0);
      long below = play.answer("weak", 1);
      if (play.answer("count", 5) == 1 && (found[0] < 0 || above * found[3] > found[2] * below)) {
        found = new long[] {edge, step, above, below};
      }
      play.answer("take", next);
    }
    Expect.holds("there is one", found[0] >= 0);
    play.row("best", at(), found);
  }

  private static void two() {
    says("TWO, what 0 how many couples, 1 the one, 2 the other PLACE of the best, 3 WEAKEST above, 4 below the line (1 to 4: -2: there is none);");
    fresh().row("two", at(), 18, 1, 7, 2, 5).tread(0, 1).row("two", at(), 0, -2, -2, -2, -2).tread(1, 1).row("two", at(), 18, 1, 7, 2, 5)
        .centre(9, 9).due(18, "two", 0);
    on("0,0;1,0;0,1").row("two", at(), 0, -2, -2, -2, -2);
    bestCoupleByHand(on("0,0;4,0;2,4").tread(2, 1));
    bestCoupleByHand(on("0,0;6,0;6,3;3,3;3,6;0,6").tread(1, 2).centre(4, 1));
    says("NO_NUMBER: no such what.");
    fresh().each(NO, "two", 5, -1, LOWEST, HIGHEST);
    on("0,0;1,0;0,1").each(NO, "two", 5, -1);
  }

  /** Puts each couple and looks at its WEAKEST. */
  private static void bestCoupleByHand(Play play) {
    int places = (int) play.answer("count", 6);
    long[] found = {0, -2, -2, -2, -2};
    for (int i = 0; i < places; i++) {
      for (int j = i + 1; j < places; j++) {
        for (int k : at(i, j)) play.answer("put", (int) play.answer("place", k, 0), (int) play.answer("place", k, 1));
        long above = play.answer("weak", 0);
        long below = play.answer("weak", 1);
        if (play.answer("count", 5) == 1 && (found[0]++ == 0 || above * found[4] > found[3] * below)) {
          found = new long[] {found[0], i, j, above, below};
        }
        play.answer("take", 1);
        play.answer("take", 0);
      }
    }
    Expect.holds("there are couples", found[0] > 1);
    play.row("two", at(), found);
  }

  private static void slide() {
    says("SLIDE of a FINGER, what 0 the least, 1 the greatest step;");
    pinch().row("slide", at(0), 1, 3).row("slide", at(1), 1, 3).puts(0, 3, 0, 1).row("slide", at(0), 2, 2).row("slide", at(2), 3, 3);
    on("0,0;9,0;9,2;0,2").puts(0, 4, 2, 5).row("slide", at(0), 3, 5);
    // nine steps long, firm all along: from the first place to the last
    on(WHOLE).tread(3, 1).puts(0, 4, 2, 4).row("slide", at(0), 1, 8).row("slide", at(1), 1, 8).due(2, "count", 2).row("finger", at(0), 0, 4);
    says("-2: it is not FIRM;");
    six().row("slide", at(0), -2, -2).row("slide", at(5), -2, -2);
    says("NONE: no such ones.");
    fresh().each(NONE, "slide", 0, 0, -1, 0, 0, 2);
    six().each(NONE, "slide", 6, 0, -1, 0, 0, 2, 0, -1, LOWEST, 0, HIGHEST, 0, 0, LOWEST, 0, HIGHEST);
    pinch().each(NONE, "slide", 2, 0, -1, 0, 0, 2, 0, -1);
  }

  private static void rough() {
    says("ROUGH, what 0 above, 1 below the line;");
    pinch().row("rough", at(), 1, 3).tread(3, 1).row("rough", at(), 1, 3).due(3, "count", 7);
    fresh().puts(0, 1, 0, 3, 2, 2, 1, 2, 3, 2).row("rough", at(), 0, 1);
    on("9,3;3,9;0,6").puts(1, 1, 2, 2).row("rough", at(), 3, 1);
    says("-2: there is none;");
    fresh().row("rough", at(), -2, -2).puts(0, 2).row("rough", at(), -2, -2);
    says("NONE: no such what.");
    fresh().each(NONE, "rough", 2, -1, LOWEST, HIGHEST);
    pinch().each(NONE, "rough", 2, -1, LOWEST, HIGHEST);
  }

  private static void opposite() {
    says("Whether PLACES i and j are OPPOSITE (1, 0);");
    fresh().each(1, "opposite", 1, 7, 7, 1, 0, 11, 11, 0).each(0, "opposite", 0, 0, 11, 11, 0, 1);
    says("NONE: no such ones.");
    fresh().each(NONE, "opposite", 12, 0, 0, 12, -1, 0, 0, -1, LOWEST, 0, 0, LOWEST, HIGHEST, 0, 0, HIGHEST, 12, 12, -1, -1);
    on("0,0;1,0;0,1").due(NONE, "opposite", 0, 0);
  }

  private static void weight() {
    says("EFFORT of WEIGHT, what 0 above, 1 below the line;");
    fresh().row("weight", at(0, 0), 0, 1);
    pinch().row("weight", at(9, -9), 18, 1).row("weight", at(-9, 0), 9, 1);
    // (-1, 1, -3) and (1, -1, 2) are to make (1, -1, 4/3): 2/3 and 5/3
    on("0,0;4,0;0,4").puts(0, 1, 2, 2).row("weight", at(-1, 1), 7, 3).row("weight", at(-3, 3), 7, 1);
    says("NO_NUMBER: it is not HELD, no such ones.");
    fresh().each(NO, "weight", 1, 0, 0, 0, 1, 1, 0, 0, 2, 0, 0, -1);
    pinch().each(NO, "weight", 10, 0, 0, -10, 0, 0, 0, 10, 0, 0, -10, 0, 1, 1, 2, 1, 1, -1, LOWEST, 0, 0, HIGHEST, 0, 0,
        0, LOWEST, 0, 0, HIGHEST, 0, 0, 0, LOWEST, 0, 0, HIGHEST);
  }

  private static void tilt() {
    says("TILT (bits) by a limit (0 to 10000);");
    pinch().due(0, "tilt", 0).due(85, "tilt", 1).due(255, "tilt", 2).due(255, "tilt", 10000);
    fresh().due(0, "tilt", 0).due(0, "tilt", 10000);
    says("NONE: no such one.");
    pinch().each(NONE, "tilt", -1, 10001, LOWEST, HIGHEST);
  }

  private static void storm() {
    says("STORM of n (1 to 60): how many PUSHES are HELD with an EFFORT of no more than a limit (0 to 10000);");
    pinch().due(1, "storm", 1, 10000).due(60, "storm", 60, 10000).due(0, "storm", 60, 0).due(1, "storm", 1, 27).due(0, "storm", 1, 26);
    // X 1384 makes 0 0 0, which is held without a finger; X 4741 makes (0, -2, 0), held from below with an effort of 2
    fresh().due(0, "storm", 60, 10000).due(1, "seed", 1384).due(1, "storm", 1, 0).due(1, "storm", 60, 10000);
    fresh().due(1, "seed", 4741).tread(0, 1).puts(0, 2).due(0, "storm", 1, 1).due(1, "storm", 1, 2);
    says("NONE: no such ones.");
    pinch().each(NONE, "storm", 0, 1, 61, 1, 1, -1, 1, 10001, LOWEST, 1, HIGHEST, 1, 1, LOWEST, 1, HIGHEST);
  }

  private static void seed() {
    says("THE SEED (0 to 65535; X, too): true;");
    fresh().due(1, "seed", 0).due(0, "count", 15).due(1, "seed", 65535).due(65535, "count", 15);
    says("false: no such number.");
    fresh().due(1, "seed", 77).each(0, "seed", -1, 65536, LOWEST, HIGHEST).due(77, "count", 15);
  }

  private static void keep() {
    says("KEPT: how many FINGERS.");
    fresh().due(0, "keep").puts(0, 1).due(1, "keep");
    six().due(6, "keep").due(6, "keep").takes(0).due(1, "undo").due(6, "count", 2);
  }

  private static void undo() {
    says("UNDONE: true;");
    fresh().due(0, "keep").due(1, "undo").due(1, "undo").puts(0, 1).due(1, "undo").due(0, "count", 2).due(1, "undo");
    six().due(6, "keep").plate(3, "0,0;9,0;0,9").due(1, "undo").due(6, "count", 2).due(4, "count", 0).row("free", at(), 1, -1, 0)
        .row("best", at(), 2, 3, 1, 2).due(18, "two", 0).due(-3, "put", 2, 1);
    says("false: nothing was KEPT.");
    fresh().due(0, "undo").puts(0, 1).due(0, "undo").due(1, "count", 2);
    // a plate that is told forgets what was done, not what was kept
    pinch().due(2, "keep").plate(3, "0,0;9,0;0,9").plate(8, EIGHT).due(1, "undo").due(2, "count", 2).row("past", at(0), 0, 2, 1, 3);
  }

  private static void check() {
    says("CHECK by the first n bytes of the tape (0 to 12; empty then):");
    filled(240).due(NONE, "check", 0).due(0, "count", 14);
    six().check(NONE, 0, 1, 0, 2, 0, 3, 1, 1, 1, 2, 1, 3).due(0, "count", 14);
    says("NONE: right (behind the last FINGER nothing is);");
    fresh().check(NONE).check(0, 0).check(0, 0, 1);
    fresh().puts(0, 1).check(NONE, 0).check(NONE, 0, 1).check(2, 0, 1, 0).check(2, 0, 1, 0, 1);
    says("else the first that is not so;");
    six().check(0, 1, 1, 0, 2, 0, 3, 1, 1, 1, 2, 1, 3).check(11, 0, 1, 0, 2, 0, 3, 1, 1, 1, 2, 1, 4).check(10, 0, 1, 0, 2, 0, 3, 1, 1, 1, 2, 0, 4)
        .check(5, 0, 1, 0, 2, 0, 2, 1, 1, 1, 2, 1, 3).check(0, 255, 255);
    says("-2: no such n, it has not so many (the tape stays).");
    fresh().each(-2, "check", 1, 12, 13, -1, LOWEST, HIGHEST);
    filled(20).each(-2, "check", 13, 20, -1, LOWEST, HIGHEST).due(20, "count", 14).due(0, "check", 12);
    six().each(-2, "check", 12, 1).due(NONE, "check", 0);
  }

  /** An object is used for at most 512 calls: the last of them as right as the first, and none behind them throws. */
  private static void manyCalls() {
    GraspJudge judge = new GraspJudge();
    for (int i = 0; i < 509; i++) judge.tread(i % 4, 1 + i % 3);
    judge.tread(1, 1);
    judge.put(0, 2);
    Expect.due("the 512th call", judge.put(2, 2), 1);
    for (int i = 0; i < 100; i++) judge.weak(i % 9);
  }
}
