/**
 * What an earlier call, plate or finger leaves behind in the judge's rows never shows in a later answer. The cases are
 * worked out by hand; each has something left over that would change the answer if it were looked at.
 */
public final class LeftoversTest {
  private static final long NO = GraspJudge.NO_NUMBER;

  public static void main(String[] args) {
    placesOfAnEarlierPlate();
    cornersOfAnEarlierPlate();
    fingersTaken();
    freeingPushes();
    freeingPushesOfLowerRank();
    holders();
    loads();
    middles();
    dearAnswers();
    Expect.finish();
  }

  private static Play fresh() {
    return Play.fresh();
  }

  private static Play on(String plate) {
    return Play.on(plate);
  }

  private static int[] at(int... with) {
    return with;
  }

  private static void placesOfAnEarlierPlate() {
    Expect.about("place 16: ");
    // the small square's second PLACE, EDGE 1 by 1, would be the triangle's corner (0, 1), and in both cones
    on("0,0;2,0;2,2;0,2").plate(3, "0,0;2,0;0,1").tread(3, 1).due(1, "count", 6).due(0, "place", 0, 5).due(-2, "place", 0, 6)
        .due(0, "count", 16).due(-1, "opposite", 0, 1).due(0, "two", 0).due(-2, "two", 1);
    on("0,0;9,0;9,9;0,9").due(32, "count", 6).plate(4, "0,0;4,0;4,4;0,4").due(12, "count", 6).due(30, "count", 16).due(18, "two", 0);
  }

  private static void cornersOfAnEarlierPlate() {
    Expect.about("turn, inside: ");
    Play eight = on("2,0;4,0;6,2;6,4;4,6;2,6;0,4;0,2").due(0, "turn");
    eight.row("corner", at(0), 9, 2).row("corner", at(7), 7, 0).due(56, "count", 1);
    eight.plate(3, "0,0;2,0;0,2").due(4, "count", 1).due(0, "inside", 3, 3).due(2, "inside", 1, 1).due(0, "turn");
    eight.row("corner", at(0), 9, 0).row("corner", at(1), 9, 2).row("corner", at(2), 7, 0).due(-1, "corner", 3, 0)
        .due(NO, "edge", 3, 4).due(-1, "put", 3, 1);
  }

  private static void fingersTaken() {
    Expect.about("slide, rough: ");
    // (1, 0) with (3, 4) is too slanting by 1 by 3, with the third finger at (1, 4) it is not
    Play slides = fresh().tread(1, 3).puts(0, 3, 2, 1, 2, 3).due(1, "slide", 0, 0).due(3, "slide", 0, 1);
    slides.takes(2).due(2, "slide", 0, 0).due(3, "slide", 0, 1);
    // (3, 0) stands below (3, 4); (1, 0) is 2 aside on 4
    Play roughs = fresh().puts(0, 1, 2, 1, 0, 3).row("rough", at(), 1, 3);
    roughs.takes(2).row("rough", at(), 2, 3).takes(1).row("rough", at(), -2, -2);
    Play six = fresh().tread(0, 1).puts(0, 1, 0, 3, 1, 1, 1, 3, 2, 1, 2, 3).row("rough", at(), 1, 3);
    six.takes(5, 4, 3, 2, 1).row("rough", at(), -2, -2).due(1, "count", 3).due(1, "count", 4).due(NO, "wrench", 1, 0);
  }

  private static void freeingPushes() {
    Expect.about("free, frees: ");
    // WRENCHES 0 1 -1, 0 1 1, -1 0 0; then the last one 1 0 0
    Play play = fresh().tread(0, 1).puts(0, 1, 0, 3, 1, 2);
    for (int again = 0; again < 3; again++) {
      play.due(3, "frees", -1, 0).row("frees", at(0), 0, -1, -1).row("frees", at(1), 0, -1, 1).row("frees", at(2), 1, 0, 0)
          .due(NO, "frees", 3, 0).row("free", at(), 1, 0, 0);
      // a fourth, -1 0 -1, comes and goes
      play.puts(1, 1).due(4, "frees", -1, 0).row("frees", at(0), 0, -1, 0).row("frees", at(1), 0, -1, 1)
          .row("frees", at(2), 1, -1, -1).row("frees", at(3), 1, 0, 0).row("free", at(), 1, 0, 0).takes(3);
    }
    play.takes(2).due(0, "frees", -1, 0).due(NO, "frees", 0, 0).row("free", at(), 1, 0, 0);
    play.puts(3, 2).row("free", at(), -1, 0, 0).due(3, "frees", -1, 0).row("frees", at(0), -1, 0, 0)
        .row("frees", at(1), 0, -1, -1).row("frees", at(2), 0, -1, 1).due(NO, "frees", 3, 0);
  }

  private static void freeingPushesOfLowerRank() {
    Expect.about("free: ");
    Play down = fresh().tread(0, 1).puts(1, 2, 0, 1, 0, 3).row("free", at(), 0, -1, -1);
    down.takes(0, 0).due(1, "count", 4).row("free", at(), 1, 0, 0).takes(0).due(0, "count", 4).row("free", at(), 1, 0, 0);
    fresh().tread(0, 1).puts(0, 1, 1, 2, 0, 3).row("free", at(), 0, -1, -1).takes(2, 0).due(1, "count", 4)
        .row("free", at(), 0, 1, 0);
    // two on one EDGE push one way: which of them came first turns the cross product, not the answer
    fresh().tread(0, 1).puts(1, 1, 1, 3).due(2, "count", 4).row("free", at(), 0, 1, 0);
    fresh().tread(0, 1).puts(1, 3, 1, 1).due(2, "count", 4).row("free", at(), 0, 1, 0);
    fresh().tread(0, 1).puts(0, 3, 0, 1).due(2, "count", 4).row("free", at(), 1, 0, 0);
    on("0,0;8,0;0,8").tread(0, 1).puts(1, 2, 1, 5).row("free", at(), -1, 1, 0).takes(0).row("free", at(), -1, 1, 0);
    on("0,0;8,0;0,8").tread(0, 1).puts(1, 5, 1, 2).row("free", at(), -1, 1, 0).takes(1).row("free", at(), -1, 1, 0);
  }

  private static void holders() {
    Expect.about("holder, effort: ");
    Play play = Play.pinch().due(2, "holder", 0, 1, 0, -1, 0).row("holder", at(0, 1, 0, 1), 3, 1, 2);
    play.due(0, "holder", 0, 0, 0, -1, 0).due(NO, "holder", 0, 0, 0, 0, 0).row("effort", at(0, 0, 0), 0, 1);
    play.due(1, "holder", 1, 1, -2, -1, 0).row("holder", at(1, 1, -2, 0), 2, 1, 1).due(NO, "holder", 1, 1, -2, 1, 0);
    // -1 -1 2, which held 1 1 -2 alone, is gone
    play.takes(1).due(0, "held", 1, 1, -2).due(0, "held", 0, 1, 0).due(NO, "holder", 0, 1, 0, -1, 0).row("effort", at(0, 1, 0), NO, NO)
        .row("effort", at(0, 0, 0), 0, 1);
  }

  private static void loads() {
    Expect.about("load: ");
    Play play = Play.pinch().loads(3, "0,9,0;0,0,8;0,1,0").row("load", at(), 3, 7, 9, 1);
    play.loads(1, "0,1,0").row("load", at(), 1, 1, 1, 1, 1, 1, NO).loads(-1006, "0,5,5;").row("load", at(), 1, 1, 1, 1, 1, 1, NO);
  }

  /** WEIGHT is the PUSH at the middle, told here by its turning about the CENTRE. */
  private static void middles() {
    Expect.about("weight: ");
    // the middle is (2, 1)
    Play wedge = on("0,0;6,0;0,3").tread(3, 1).puts(0, 2, 1, 2, 2, 1, 0, 5).due(1, "count", 5);
    for (int gx = -3; gx <= 3; gx++) {
      for (int gy = -3; gy <= 3; gy++) {
        weighs(wedge.centre(2, 2), gx, gy, gx);
        weighs(wedge.centre(2, 1), gx, gy, 0);
        weighs(wedge.centre(0, 0), gx, gy, 2 * gy - gx);
      }
    }
    // a turn brings the middle to (8, 2), the CENTRE to (9, 0)
    wedge.due(1, "turn");
    weighs(wedge, 3, 1, -1 - 2 * 3);
    // three squares of 3 by 3: the middle is (5/2, 5/2)
    Play ell = on("0,0;6,0;6,3;3,3;3,6;0,6").puts(0, 3, 3, 1, 5, 3, 1, 1).centre(0, 0).due(1, "count", 5);
    weighs(ell, 2, 0, -5);
    weighs(ell, 0, -4, -10);
    weighs(ell, 6, -2, -20);
    Play eight = on("2,0;4,0;6,2;6,4;4,6;2,6;0,4;0,2").tread(2, 1).puts(0, 1, 4, 1, 2, 1).centre(3, 3).due(1, "count", 5);
    weighs(eight, 5, -7, 0);
    weighs(eight.centre(1, 0), 5, -7, 2 * -7 - 3 * 5);
  }

  private static void weighs(Play play, int gx, int gy, int turning) {
    for (int what = 0; what < 2; what++) play.due(play.answer("effort", gx, gy, turning, what), "weight", gx, gy, what);
  }

  /** BEST and TWO are asked again behind each change that could be a reason for another answer. */
  private static void dearAnswers() {
    Expect.about("best, two: ");
    Play play = fresh().row("best", at(), -2, -2, -2, -2).due(18, "two", 0);
    play.puts(0, 2).due(2, "best", 0).due(2, "best", 1).row("two", at(), 18, 1, 7, 2, 5).tread(0, 1);
    play.row("best", at(), -2, -2, -2, -2).row("two", at(), 0, -2, -2, -2, -2).due(1, "keep").tread(1, 1);
    play.due(2, "best", 0).due(18, "two", 0).due(1, "undo").row("best", at(), -2, -2, -2, -2).due(0, "two", 0);
    play.tread(1, 1).puts(2, 2).takes(0).due(0, "best", 0).due(2, "best", 1).takes(0).due(-2, "best", 0);
    play.plate(3, "0,0;1,0;0,1").due(0, "two", 0).due(-2, "best", 0);
  }
}
