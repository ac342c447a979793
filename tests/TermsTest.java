/** Each sentence of the document's Terms: what it says, and the cases at its bounds, worked out by hand. */
public final class TermsTest {
  private static final Document TERMS = Document.terms();
  private static final long NO = GraspJudge.NO_NUMBER;
  private static final int NONE = GraspJudge.NONE;
  private static final String EIGHT = "2,0;4,0;6,2;6,4;4,6;2,6;0,4;0,2";
  private static final String ELL = "0,0;6,0;6,3;3,3;3,6;0,6";
  private static final String YOKE = "0,0;9,0;9,9;6,9;6,1;3,1;3,9;0,9";
  private static final String WHOLE = "0,0;9,0;9,9;0,9";

  public static void main(String[] args) {
    corners();
    nothingInCommon();
    edges();
    places();
    fingers();
    treadAndForces();
    centreAndWrenches();
    textOfPlate();
    plateTold();
    textOfOrders();
    faultsOfOrders();
    pushAndRank();
    firm();
    freeingPush();
    freeingPushOfLowerRank();
    frees();
    held();
    holders();
    weakest();
    proof();
    needed();
    best();
    slide();
    rough();
    opposite();
    weight();
    tilt();
    storm();
    two();
    loads();
    turn();
    past();
    kept();
    check();
    refused();
    constants();
    TERMS.finish();
    Expect.finish();
  }

  private static void says(String words) {
    TERMS.says(words);
  }

  private static Play fresh() {
    return Play.fresh();
  }

  private static Play pinch() {
    return Play.pinch();
  }

  private static Play on(String plate) {
    return Play.on(plate);
  }

  private static int[] at(int... with) {
    return with;
  }

  private static void plate(long want, String text) {
    fresh().plate(want, text);
  }

  // ---- the plate ----

  private static void corners() {
    says("A PLATE: 3 to 8 CORNERS (x, y each 0 to 9) in turn");
    plate(-5003, "0,0");
    plate(-5007, "0,0;4,0");
    plate(3, "0,0;1,0;0,1");
    plate(8, EIGHT);
    plate(-4032, EIGHT + ";1,1");
    plate(4, "9,0;9,9;0,9;0,0");
    plate(-1004, "0,0;:,0;0,4");
    plate(-1004, "0,0;/,0;0,4");
    plate(-1002, "0,:;4,0;0,4");
    plate(-1005, "0,0;10,0;0,4");
    says("the inside on the left");
    plate(3, "0,0;4,0;0,4");
    plate(-5011, "0,0;0,4;4,0");
    plate(-5015, "0,0;0,4;4,4;4,0");
    plate(6, ELL);
    plate(-5023, "0,6;3,6;3,3;6,3;6,0;0,0");
    plate(-5031, "0,2;0,4;2,6;4,6;6,4;6,2;4,0;2,0");
    says("at each it turns (no three in turn lie on a line)");
    plate(-5011, "0,0;2,0;4,0");
    plate(-5015, "0,0;2,0;4,0;0,4");
    plate(-5015, "2,0;4,0;0,4;0,0");
    plate(-5015, "4,0;0,4;0,0;2,0");
    plate(-5015, "0,0;6,0;3,0;0,4");
    plate(-5015, "0,0;0,0;4,0;0,4");
    plate(-5015, "0,0;4,0;0,4;0,0");
    plate(-5019, "0,0;9,0;6,3;3,6;0,9");
    plate(4, "0,0;4,1;8,0;4,9");
    plate(5, "0,0;4,0;4,4;2,1;0,4");
    says("At first (0, 0), (4, 0), (4, 4), (0, 4).");
    fresh().row("corner", at(0), 0, 0).row("corner", at(1), 4, 0).row("corner", at(2), 4, 4).row("corner", at(3), 0, 4)
        .due(NONE, "corner", 4, 0);
  }

  private static void nothingInCommon() {
    says("have nothing in common but CORNERS of neighbours");
    // two edges cross; so with the last edge; with an area above 0 all the same
    plate(-5015, "0,2;9,2;9,9;1,0");
    plate(-5015, "1,0;0,2;9,2;9,9");
    plate(-5019, "0,0;6,6;0,3;9,0;9,9");
    // a corner on an edge, on the last edge; a corner on a corner
    plate(-5019, "0,0;8,0;8,8;4,0;0,8");
    plate(-5019, "8,0;8,8;4,0;0,8;0,0");
    plate(-5027, "0,0;4,0;4,4;6,6;2,6;4,4;0,4");
    // an edge on a part of another; all of it round twice
    plate(-5031, "0,0;9,0;9,2;5,2;5,0;3,0;3,4;0,4");
    plate(-5031, "0,0;9,0;9,9;1,9;1,1;8,1;8,8;0,8");
    plate(-5023, "0,0;4,0;0,4;0,0;4,0;0,4");
    // only just apart
    plate(5, "0,0;8,0;8,8;4,1;0,8");
    plate(8, YOKE);
  }

  private static void edges() {
    says("; EDGES (EDGE e from CORNER e to the next, the last one's to CORNER 0)");
    fresh().row("edge", at(0), 1, 0, 0, 1, 4).row("edge", at(3), 0, -1, 1, 0, 4).due(NO, "edge", 4, 0);
    on("0,0;6,0;0,3").row("edge", at(2), 0, -1, 1, 0, 3).due(NO, "edge", 3, 0);
    on(EIGHT).row("edge", at(7), 1, -1, 1, 1, 2).due(NO, "edge", 8, 0);
    says("STEPS of an EDGE: the greatest common divisor g of how far its ends are apart in x and in y");
    Play whole = on(WHOLE);
    for (int e = 0; e < 4; e++) whole.due(9, "edge", e, 4);
    on("0,0;6,3;2,5").due(3, "edge", 0, 4).due(2, "edge", 1, 4).due(1, "edge", 2, 4);
    on("9,9;1,6;9,0;5,7").due(1, "edge", 0, 4).due(2, "edge", 1, 4).due(1, "edge", 2, 4).due(2, "edge", 3, 4);
    on("0,0;9,6;0,9").due(3, "edge", 0, 4).due(3, "edge", 1, 4).due(9, "edge", 2, 4);
    says("T that way by g (two numbers)");
    on("9,9;1,6;9,0;5,7").row("edge", at(0), -8, -3).row("edge", at(1), 4, -3).row("edge", at(2), -4, 7)
        .row("edge", at(3), 2, 1);
    says("N: (less T's y, T's x), inward.");
    on("9,9;1,6;9,0;5,7").row("edge", at(0), -8, -3, 3, -8).row("edge", at(1), 4, -3, 3, 4)
        .row("edge", at(2), -4, 7, -7, -4).row("edge", at(3), 2, 1, -1, 2);
    Play ell = on(ELL);
    for (int i = 0; i < 18; i++) {
      int e = (int) ell.answer("place", i, 0);
      int x = (int) (ell.answer("place", i, 2) + ell.answer("edge", e, 2));
      int y = (int) (ell.answer("place", i, 3) + ell.answer("edge", e, 3));
      ell.due(1, "inside", x, y);
    }
  }

  private static void places() {
    says("PLACES: of an EDGE those 1 to g less 1 times T from its begin, in order by EDGES, then by these (at most 72 in all).");
    Play first = fresh().due(12, "count", 6);
    int[][] rows = {{0, 1, 1, 0}, {0, 2, 2, 0}, {0, 3, 3, 0}, {1, 1, 4, 1}, {1, 2, 4, 2}, {1, 3, 4, 3},
      {2, 1, 3, 4}, {2, 2, 2, 4}, {2, 3, 1, 4}, {3, 1, 0, 3}, {3, 2, 0, 2}, {3, 3, 0, 1}};
    for (int i = 0; i < 12; i++) for (int w = 0; w < 4; w++) first.due(rows[i][w], "place", i, w);
    first.due(NONE, "place", 12, 0);
    on("0,0;1,0;0,1").due(0, "count", 6).due(NONE, "place", 0, 0).due(NONE, "put", 0, 1).due(0, "count", 16)
        .due(0, "two", 0).due(-2, "best", 0);
    on("0,0;6,3;2,5").due(3, "count", 6).row("place", at(1), 0, 2, 4, 2).row("place", at(2), 1, 1, 4, 4)
        .due(NONE, "place", 3, 0).due(NONE, "put", 2, 1);
    on(WHOLE).due(32, "count", 6).row("place", at(31), 3, 8, 0, 1).due(NONE, "place", 32, 0);
    on(YOKE).due(44, "count", 6).row("place", at(43), 7, 8, 0, 1).due(NONE, "place", 44, 0);
  }

  // ---- fingers, forces, wrenches ----

  private static void fingers() {
    says("FINGERS, at most 6");
    fresh().puts(0, 1, 0, 2, 0, 3, 1, 1, 1, 2, 1, 3).due(-3, "put", 2, 1).due(6, "count", 2).takes(5).puts(2, 1)
        .due(-3, "put", 1, 3);
    fresh().orders(6, "put 0 1;put 0 2;put 0 3;put 1 1;put 1 2;put 1 3;put 2 1").due(6, "count", 2);
    says(", numbered as they came (those behind one that is taken: one less)");
    fresh().puts(0, 3, 2, 1, 1, 2, 3, 3).row("finger", at(0), 0, 3).row("finger", at(3), 3, 3)
        .takes(0).row("finger", at(0), 2, 1).row("finger", at(1), 1, 2).row("finger", at(2), 3, 3).due(NONE, "finger", 3, 0)
        .takes(1).row("finger", at(0), 2, 1).row("finger", at(1), 3, 3).due(NONE, "finger", 2, 0)
        .takes(1).row("finger", at(0), 2, 1).due(NONE, "finger", 1, 0)
        .puts(0, 3).row("finger", at(1), 0, 3);
    says(", each at an unlike PLACE.");
    fresh().puts(0, 3).due(-2, "put", 0, 3).puts(0, 2, 2, 1).due(-2, "put", 2, 1).takes(0).puts(0, 3).due(-2, "put", 0, 3);
  }

  private static void treadAndForces() {
    says("TREAD m by q (m 0 to 3, q 1 to 3; at first 1 by 1).");
    Play play = fresh().due(1, "count", 7).due(1, "count", 8);
    for (int m = 0; m <= 3; m++) for (int q = 1; q <= 3; q++) play.tread(m, q).due(m, "count", 7).due(q, "count", 8);
    play.each(NONE, "tread", -1, 1, 4, 1, 0, 0, 0, 4, 3, 0, 3, 4, -1, 0, 4, 4).due(3, "count", 7).due(3, "count", 8);
    says("FORCES of a FINGER: q N and m T, then q N less m T, each in lowest terms (both numbers by their greatest common divisor);");
    // on the first plate N (0, 1), T (1, 0), at (2, 0), 2 below the centre: turning is twice fx
    Play below = fresh().puts(0, 2).row("wrench", at(0), 1, 1, 2).row("wrench", at(1), -1, 1, -2);
    below.tread(2, 2).row("wrench", at(0), 1, 1, 2).tread(3, 3).row("wrench", at(1), -1, 1, -2);
    below.tread(3, 1).row("wrench", at(0), 3, 1, 6).row("wrench", at(1), -3, 1, -6);
    below.tread(2, 3).row("wrench", at(0), 2, 3, 4).tread(1, 3).row("wrench", at(1), -1, 3, -2);
    // aslant N (-1, 2), T (2, 1), at (4, 2), 2 beside the centre: turning is twice fy
    Play aslant = on("0,0;6,3;2,5").puts(0, 2);
    aslant.tread(1, 3).row("wrench", at(0), -1, 7, 14).row("wrench", at(1), -1, 1, 2);
    aslant.tread(1, 2).row("wrench", at(0), 0, 1, 2).row("wrench", at(1), -4, 3, 6);
    aslant.tread(2, 1).row("wrench", at(0), 3, 4, 8).row("wrench", at(1), -1, 0, 0);
    aslant.due(2, "finger", 0, 4).due(2, "count", 3);
    says("with m 0: N alone.");
    for (int q = 1; q <= 3; q++) {
      aslant.tread(0, q).row("wrench", at(0), -1, 2, 4).due(NO, "wrench", 1, 0).due(1, "finger", 0, 4).due(1, "count", 3);
    }
  }

  private static void centreAndWrenches() {
    says("CENTRE (x, y 0 to 9; at first 2, 2).");
    fresh().due(2, "count", 9).due(2, "count", 10).centre(0, 9).due(0, "count", 9).due(9, "count", 10).centre(9, 0)
        .each(NONE, "centre", -1, 0, 10, 0, 0, -1, 0, 10, 10, 10).due(9, "count", 9).due(0, "count", 10);
    says("WRENCHES: of FINGERS by numbers, of each by FORCES: (fx, fy, t): t is (x less the CENTRE's) fy less (y less the CENTRE's) fx.");
    Play play = pinch().due(4, "count", 3);
    play.row("wrench", at(0), 1, 1, 2, 0).row("wrench", at(1), -1, 1, -2, 0).row("wrench", at(2), -1, -1, 2, 1)
        .row("wrench", at(3), 1, -1, -2, 1);
    play.centre(9, 9).row("wrench", at(0), 1, 1, 2, 0).row("wrench", at(1), -1, 1, -16, 0)
        .row("wrench", at(2), -1, -1, 2, 1).row("wrench", at(3), 1, -1, 12, 1);
    play.centre(0, 0).row("wrench", at(0), 1, 1, 2, 0).row("wrench", at(1), -1, 1, 2, 0)
        .row("wrench", at(2), -1, -1, 2, 1).row("wrench", at(3), 1, -1, -6, 1);
    play.takes(0).row("wrench", at(0), -1, -1, 2, 0).due(NO, "wrench", 2, 0);
    fresh().puts(0, 1, 0, 2, 0, 3, 1, 1, 1, 2, 1, 3).due(12, "count", 3).row("wrench", at(11), -1, -1, -1, 5)
        .due(NO, "wrench", 12, 0);
  }

  // ---- texts ----

  private static void textOfPlate() {
    says("A TEXT of a PLATE: at most 60 bytes: x,y of each CORNER, one digit each, with a , (44) between the two, a ; (59) between CORNERS.");
    String right = "0,0;4,0;0,4";
    fresh().feed(right + " ".repeat(50)).due(NONE, "plate", 61).due(-1011, "plate", 60);
    fresh().feed(right).due(3, "plate", right.length());
    for (int sign = 0; sign < 256; sign++) {
      plate(sign == 44 ? 3 : -1001, "0" + (char) sign + "0;4,0;0,4");
      plate(sign == 59 ? 3 : -1003, "0,0" + (char) sign + "4,0;0,4");
    }
    says("FAULTS, the first from the left: 1 what can't stand there (the end, too)");
    plate(-1001, "0");
    plate(-1002, "0,");
    plate(-1004, "0,0;");
    plate(-1008, "0,0;4,0;");
    plate(-1001, "00,0;4,0;0,4");
    plate(-1003, "0,00;4,0;0,4");
    plate(-1000, " 0,0;4,0;0,4");
    plate(-1011, "0,0;4,0;0,4 ");
    plate(-1011, "0,0;4,0;0,4\0");
    plate(-1000, "-1,0;4,0;0,4");
    plate(-1002, "0,x;y,0;z");
    plate(-1031, EIGHT + " ;1,1");
    for (int sign = 0; sign < 256; sign++) {
      boolean digit = sign >= 48 && sign <= 57;
      plate(digit ? -5003 : -1000, (char) sign + ",0");
      plate(digit ? -5003 : -1002, "0," + (char) sign);
    }
    says("4 a ninth CORNER, at its first digit");
    plate(-4032, EIGHT + ";1,1");
    plate(-4032, EIGHT + ";9");
    plate(-4032, EIGHT + ";0x");
    plate(-4032, "0,0;".repeat(8) + "0,0");
    plate(-1032, EIGHT + ";");
    plate(-1032, EIGHT + ";,");
    plate(-1032, EIGHT + ";;");
    says("5 at the end: it is no PLATE.");
    plate(-5003, "7,7");
    plate(-5007, "0,0;4,0");
    plate(-5011, "0,0;0,4;4,0");
    plate(-5031, "0,0;".repeat(7) + "0,0");
    plate(-1008, "0,0;0,0;x");
  }

  private static void plateTold() {
    says("FINGERS are none then, CENTRE 2, 2");
    Play play = pinch().centre(9, 9).plate(-5011, "0,0;0,4;4,0").due(2, "count", 2).due(9, "count", 9);
    play.plate(4, "0,0;4,0;4,4;0,4").due(0, "count", 2).due(0, "count", 3).due(0, "count", 4).due(0, "count", 5)
        .due(NONE, "finger", 0, 0).due(2, "count", 9).due(2, "count", 10).due(-2, "place", 1, 4);
    says("TREAD, LOADS, X stay.");
    pinch().tread(3, 2).loads(2, "1,2,3;4,5,6").due(1, "seed", 500).plate(3, "0,0;9,0;0,9").due(3, "count", 7)
        .due(2, "count", 8).due(2, "load", 0).due(500, "count", 15);
  }

  private static void textOfOrders() {
    says("ORDERS: a TEXT of at most 120 bytes: CLAUSES with a ; between two, 12 at most");
    String eleven = "tread 1 1;".repeat(11);
    fresh().orders(12, eleven + "tread 1 2").due(2, "count", 8);
    fresh().orders(12, eleven + "tread 01 2").due(2, "count", 8);
    fresh().feed("tread 1 1;".repeat(12) + "tread 1 1;".repeat(2)).due(NONE, "orders", 121).due(-4120, "orders", 120);
    says("each a word (as far as small letters go) and NUMBERS (one or two digits) with one blank (32) ahead of each: put E K, take I, tread M Q, centre X Y.");
    fresh().orders(1, "put 3 1").row("finger", at(0), 3, 1).orders(1, "put 02 03").row("finger", at(1), 2, 3)
        .orders(1, "tread 3 2").due(3, "count", 7).due(2, "count", 8).orders(1, "centre 8 9").due(8, "count", 9)
        .due(9, "count", 10).orders(1, "take 00").due(1, "count", 2).row("finger", at(0), 2, 3);
    String[] wrong = {"put", "put ", "put 1", "put 1 ", "put  1 2", "put 1  2", "put 1 2 ", "put 1 2 3", "put1 2", "put\t1 2",
      "put -1 2", "take 1 2", "take 1,", "put 1,2", "take +1"};
    int[] places = {3, 4, 5, 6, 4, 6, 7, 7, 3, 3, 4, 6, 6, 5, 5};
    for (int i = 0; i < wrong.length; i++) fresh().orders(-1000 - places[i], wrong[i]);
    String[] words = {"pu 1 2", "putt 1 2", "puts", "p", "x", "takes 1", "tak 1", "threa 1 1", "treads 1 1", "center 1 1",
      "centres 1 1", "takez 1", "takea 1", "but 1 2", "pat 1 2", "pub 1 2", "fake 1", "tale 1", "taka 1", "bread 1 1",
      "treat 1 1", "gentre 1 1", "centra 1 1", "turn", "keep", "abcdefghijklmnopqrstuvwxyz 1"};
    for (String word : words) fresh().orders(-1000, word).orders(-1010, "tread 2 1;" + word);
    for (String word : new String[] {"Put 1 2", "pUt 1 2", " put 1 2", ";put 1 2", "1", " ", "take{1", "take`1"}) {
      fresh().orders(word.startsWith("take") ? -1004 : -1000, word);
    }
  }

  private static void faultsOfOrders() {
    says("FAULTS, the first from the left (of one place that of the least number): 1 likewise (of a word at its first letter)");
    fresh().orders(-1007, "take 0;").orders(-1007, "take 0;;take 0").orders(-1007, "take 0;tike 0;take 000")
        .orders(-2007, "take 000;tike 0").orders(-1004, "take").orders(-1005, "take ").orders(-1006, "take 1 ");
    says("2 a third digit, at it");
    fresh().orders(-2007, "take 000").orders(-2007, "take 0000").orders(-2008, "put 1 123").orders(-2006, "put 123 1")
        .orders(-2009, "centre 100 1").orders(0, "take 99").orders(-2017, "tread 1 1;take 123");
    says("4 a CLAUSE too many, where it begins (whatever stands there, the end, too: ahead of 1).");
    String twelve = "take 0;".repeat(12);
    fresh().orders(-4084, twelve).orders(-4084, twelve + "take 0").orders(-4084, twelve + "tike").orders(-4084, twelve + ";")
        .orders(-4084, twelve + " ").orders(-4084, twelve + "7").orders(-4084, twelve + (char) 255)
        .orders(-1083, twelve.substring(0, 83) + " ").orders(-1077, "take 0;".repeat(11)).orders(0, twelve.substring(0, 83));
    says("They are done one by one, till one is refused.");
    fresh().orders(3, "put 0 1;put 0 2;take 0;take 1;put 0 3").due(1, "count", 2).row("finger", at(0), 0, 2);
    fresh().orders(1, "put 0 1;put 0 1;put 0 2").due(1, "count", 2);
    fresh().orders(0, "put 9 9;put 0 1").due(0, "count", 2).orders(0, "tread 4 1;tread 2 1").due(1, "count", 7)
        .orders(0, "tread 1 0").orders(0, "centre 10 0;centre 1 1").due(2, "count", 9).orders(0, "take 0;put 0 1");
  }

  // ---- pushes and what frees ----

  private static void pushAndRank() {
    says("A PUSH: three whole numbers (fx, fy, t; -1000 to 1000 each).");
    pinch().each(1, "held", 1000, 1000, 1000, -1000, -1000, -1000, 0, 0, 0)
        .each(NONE, "held", 1001, 0, 0, -1001, 0, 0, 0, 1001, 0, 0, -1001, 0, 0, 0, 1001, 0, 0, -1001);
    says("RANK: the most WRENCHES none of which is a sum of multiples of others.");
    fresh().due(0, "count", 4).puts(0, 2).due(2, "count", 4).tread(0, 1).due(1, "count", 4).puts(2, 2).due(1, "count", 4)
        .puts(0, 1).due(2, "count", 4).puts(2, 3).due(2, "count", 4).puts(1, 2).due(3, "count", 4).tread(3, 1)
        .due(3, "count", 4).takes(0, 0, 0, 0, 0).due(0, "count", 4);
  }

  private static void firm() {
    says("FIRM: for each PUSH but 0 0 0 there is a WRENCH with which it makes more than 0 (products of like numbers together).");
    fresh().due(0, "count", 5).puts(0, 2).due(0, "count", 5).puts(2, 2).due(1, "count", 5).tread(0, 1).due(0, "count", 5);
    // from (1, 0) to (3, 4): 1 by 2 is the cone's edge, where (0, 0, 1) makes 0 with two and less with two
    fresh().puts(0, 1, 2, 1).tread(1, 2).due(3, "count", 4).due(0, "count", 5).tread(2, 3).due(1, "count", 5);
    // smooth: rank 3, but none against (0, 0, 1); then both ways round
    fresh().tread(0, 1).puts(0, 2, 2, 2, 1, 2, 3, 2).due(2, "count", 4).due(0, "count", 5).puts(0, 1)
        .due(3, "count", 4).due(0, "count", 5).puts(0, 3).due(1, "count", 5).takes(0).due(1, "count", 5);
  }

  private static void freeingPush() {
    says("If it is not FIRM there is a FREEING PUSH: with RANK 3: for couples of WRENCHES (by the first, then by the second, the first below the second) the PUSH that makes 0 with both (the cross product of the two, not 0 0 0) in lowest terms; the first that, or that turned (each number less 0), makes no more than 0 with each WRENCH: so turned.");
    // (1, 2, 0), (-1, 2, -4), (-1, -2, 0), (1, -2, -4): the first couple makes (-8, 4, 4)
    fresh().puts(0, 1, 2, 1).tread(1, 2).row("free", at(), -2, 1, 1);
    // (0, 1, -1), (1, 0, -1), (-1, 0, -1): the first couple makes (-1, -1, -1), which frees when turned
    fresh().tread(0, 1).puts(0, 1, 3, 1, 1, 1).row("free", at(), 1, 1, 1);
    // (0, 1, -1), (0, -1, 1), (-1, 0, -1), (1, 0, 0): the first couple makes 0 0 0
    fresh().tread(0, 1).puts(0, 1, 2, 3, 1, 1, 3, 2).due(3, "count", 4).row("free", at(), -1, 1, 1);
    pinch().row("free", at(), NO, NO, NO);
    says("(No bounds for these.)");
    // (1, 8, 51), (-7, 4, 63), (17, 6, 30), (1, 18, 90): only the second and the third make one that frees, first of all
    on("9,9;1,6;9,0;5,7").tread(2, 3).centre(0, 3).puts(3, 1, 1, 1).row("wrench", at(1), -7, 4, 63)
        .row("wrench", at(2), 17, 6, 30).row("free", at(), 258, -1281, 110).due(NO, "effort", 258, -1281, 110, 0);
  }

  private static void freeingPushOfLowerRank() {
    says("With a lower RANK: of PUSHES that make 0 with each WRENCH that whose last number not 0 stands as far ahead as can be, this one above 0, in lowest terms.");
    fresh().row("free", at(), 1, 0, 0);
    // rank 1: (0, 1, 1); (-1, 0, 0); (3, 4, 0) by its edge; (-1, 2, 4)
    fresh().tread(0, 1).puts(0, 3).row("free", at(), 1, 0, 0);
    fresh().tread(0, 1).puts(1, 2).row("free", at(), 0, 1, 0);
    on("9,9;1,6;9,0;5,7").tread(0, 1).puts(1, 1).row("free", at(), -4, 3, 0);
    on("0,0;6,3;2,5").tread(0, 1).puts(0, 2).row("free", at(), 2, 1, 0);
    // rank 1 by two that are turned to one another
    fresh().tread(0, 1).puts(1, 1, 3, 3).due(1, "count", 4).row("free", at(), 0, 1, 0);
    // rank 2: (0, 1, 1), (0, 1, -1); (-1, 2, 1) and (-1, 2, 4); then all three numbers, last above 0
    fresh().tread(0, 1).puts(0, 3, 0, 1).row("free", at(), 1, 0, 0);
    on("0,0;6,3;2,5").tread(0, 1).puts(0, 1, 0, 2).due(2, "count", 4).row("free", at(), 2, 1, 0);
    fresh().puts(0, 2).row("free", at(), -2, 0, 1);
    fresh().tread(0, 1).puts(1, 1, 0, 1).row("free", at(), -1, 1, 1);
    fresh().tread(0, 1).puts(0, 1, 1, 1).row("free", at(), -1, 1, 1);
    fresh().tread(0, 1).puts(0, 3, 1, 1).row("free", at(), -1, -1, 1);
  }

  private static void frees() {
    says("FREES, with RANK 3: all unlike ones that couples make so, turned or not, rising by fx, fy, t");
    // couples 0 1 and 1 2 make (-2, 1, 1), 0 3 turned and 2 3 (2, -1, 1), 0 2 none, 1 3 one that frees neither way
    fresh().puts(0, 1, 2, 1).tread(1, 2).due(2, "frees", -1, 0).row("frees", at(0), -2, 1, 1).row("frees", at(1), 2, -1, 1)
        .due(NO, "frees", 2, 0);
    fresh().tread(0, 1).puts(0, 1, 3, 1, 1, 1).due(3, "frees", -1, 0);
    // (0, 1, -1), (0, -1, 1), (-1, 0, -1), (1, 0, 0)
    fresh().tread(0, 1).puts(0, 1, 2, 3, 1, 1, 3, 2).due(2, "frees", -1, 0).row("frees", at(0), -1, 1, 1)
        .row("frees", at(1), 0, 1, 1);
    on("9,9;1,6;9,0;5,7").tread(2, 3).centre(0, 3).puts(3, 1, 1, 1).due(3, "frees", -1, 0)
        .row("frees", at(0), -774, 693, -130).row("frees", at(1), 0, 5, -1).row("frees", at(2), 258, -1281, 110);
    // (0, 1, 2), (-1, 0, -1), (0, 1, 0), (-1, 0, 0): two with like fx, and two with like fx and fy
    on(ELL).tread(0, 3).puts(0, 4, 1, 1, 0, 2, 1, 2).due(4, "frees", -1, 0).row("frees", at(0), 0, -2, 1)
        .row("frees", at(1), 0, -1, 0).row("frees", at(2), 1, 0, -1).row("frees", at(3), 1, 0, 0);
    says("(none, if it is FIRM; none with a lower RANK).");
    pinch().due(0, "frees", -1, 0).due(NO, "frees", 0, 0).takes(1).due(2, "count", 4).due(0, "frees", -1, 0)
        .due(NO, "frees", 0, 0).takes(0).due(0, "frees", -1, 0);
  }

  // ---- what is held ----

  private static void held() {
    says("HELD is a PUSH if it turned is a sum of WRENCHES times numbers not below 0");
    // (1, 1, 2) and (-1, 1, -2): along the one, along the other, between, only just beside, with them, 0
    fresh().due(1, "held", 0, 0, 0).due(0, "held", 0, 0, 1).puts(0, 2)
        .each(1, "held", -1, -1, -2, 1, -1, 2, 0, -1, 0, -500, -1000, -1000, 0, 0, 0)
        .each(0, "held", 1, 1, 2, 0, 1, 0, -1, -1, -1, -2, -1, -4, -500, -499, -1000, 0, 0, 1, 1, 0, 0);
    says("its EFFORT: the least that these numbers can be together, a fraction in lowest terms.");
    fresh().puts(0, 2).row("effort", at(-500, -1000, -1000), 1000, 1).row("effort", at(0, -1, 0), 1, 1)
        .row("effort", at(0, 1, 0), NO, NO);
    pinch().row("effort", at(0, 0, 0), 0, 1).row("effort", at(0, 0, 1), 1, 2).row("effort", at(0, 0, 2), 1, 1)
        .row("effort", at(-6, 9, 47), 53, 2).row("effort", at(1000, 1000, 1000), 2500, 1)
        .row("effort", at(1, 2, 0), 3, 1);
    // the same by more wrenches: less
    Play.box().row("effort", at(0, 0, 2), 1, 1).row("effort", at(1, 1, 0), 1, 1).row("effort", at(1, 1, 2), 1, 1);
  }

  private static void holders() {
    says("HOLDERS: of sets of WRENCHES none of which is a sum of multiples of others that hold it with that EFFORT, each with a number above 0, that with the fewest, of as few the least row");
    pinch().due(0, "holder", 0, 0, 0, -1, 0).due(NO, "holder", 0, 0, 0, 0, 0)
        .due(1, "holder", -1, -1, -2, -1, 0).row("holder", at(-1, -1, -2, 0), 0, 1, 1)
        .due(2, "holder", 0, -1, 0, -1, 0).row("holder", at(0, -1, 0, 0), 0, 1, 2).row("holder", at(0, -1, 0, 1), 1, 1, 2)
        .due(3, "holder", 1, 2, 0, -1, 0).row("holder", at(1, 2, 0, 0), 1, 1, 2).row("holder", at(1, 2, 0, 1), 2, 3, 2)
        .row("holder", at(1, 2, 0, 2), 3, 1, 1).due(NO, "holder", 1, 2, 0, 3, 0);
    // smooth (0, 1, -1), (0, 1, 0), (0, 1, 1): one is fewer than two; of couples 0 1 and 0 2 the first
    Play rail = fresh().tread(0, 1).puts(0, 1, 0, 2, 0, 3);
    rail.due(1, "holder", 0, -2, 0, -1, 0).row("holder", at(0, -2, 0, 0), 1, 2, 1);
    rail.due(2, "holder", 0, -2, 1, -1, 0).row("holder", at(0, -2, 1, 0), 0, 1, 1).row("holder", at(0, -2, 1, 1), 1, 1, 1);
    // (1, 0, -1), (1, 0, 1) from the left, as those from below
    fresh().tread(0, 1).puts(3, 1, 3, 3).due(2, "holder", -1, 0, 0, -1, 0).row("holder", at(-1, 0, 0, 0), 0, 1, 2)
        .row("holder", at(-1, 0, 0, 1), 1, 1, 2).row("effort", at(-3, 0, -1), 3, 1).row("holder", at(-3, 0, -1, 1), 1, 2, 1);
    // the box: (0, 0, 2) by 1 and 3, (-1, 1, -2) and (1, -1, -2), or by 5 and 7, as dear
    Play.box().due(2, "holder", 0, 0, 2, -1, 0).row("holder", at(0, 0, 2, 0), 1, 1, 2).row("holder", at(0, 0, 2, 1), 3, 1, 2);
    says("numbers of each, fractions in lowest terms.");
    rail.row("holder", at(0, -6, -2, 0), 0, 2, 1).row("holder", at(0, -6, -2, 1), 2, 4, 1)
        .row("effort", at(0, -6, -2), 6, 1);
    pinch().row("holder", at(0, 0, 6, 0), 1, 3, 2).row("holder", at(0, 0, 6, 1), 3, 3, 2);
  }

  private static void weakest() {
    says("WEAKEST, if it is FIRM: the greatest t so that each PUSH (of any numbers) with numbers from less t to t is HELD with an EFFORT of 1 or less: the least of offsets by sizes of SIDES");
    // 2 by 5: of (2, 2, 2) with any signs none takes more than 5, one does take it
    Play play = pinch().row("weak", at(), 2, 5).row("effort", at(2, 2, 2), 5, 1).row("effort", at(2, 2, -2), 3, 1);
    for (int i = 0; i < 8; i++) {
      int fx = 2 - 4 * (i & 1);
      int fy = 2 - 2 * (i & 2);
      int t = 2 - (i & 4);
      long above = play.answer("effort", fx, fy, t, 0);
      Expect.holds("no more than 5", above <= 5 * play.answer("effort", fx, fy, t, 1));
    }
    Play.box().row("weak", at(), 1, 1).row("effort", at(1, 1, 1), 1, 1);
    fresh().row("weak", at(), NO, NO, NO, NO, NO, NO, NO);
    says("a SIDE is a plane through three WRENCHES, n1 n2 n3 in lowest terms, making the same, its offset, with these, above 0, and no more with any; size: n1, n2, n3 without signs together.");
    // four wrenches: four sides, each of three; eight: six sides, each of four
    pinch().due(2, "weak", 5).due(4, "weak", 6);
    Play.box().due(1, "weak", 5).due(6, "weak", 6);
    // smooth (0, 1, -1), (0, 1, 1), (0, -1, 0), (-1, 0, 0), (1, 0, 0): three edges of a triangle, each with either end
    fresh().tread(0, 1).puts(0, 1, 0, 3, 2, 2, 1, 2, 3, 2).row("weak", at(), 1, 4, -1, -1, -2, 1, 6);
    says("THE WEAK SIDE: of those with the least the least row n1, n2, n3.");
    pinch().row("weak", at(), 2, 5, -2, -2, -1, 2);
    Play.box().row("weak", at(), 1, 1, -1, 0, 0, 1);
  }

  private static void proof() {
    says("PROOF, if it is FIRM: the fewest WRENCHES that are FIRM by themselves (of as few the least set as bits)");
    pinch().row("proof", at(), 4, 15);
    Play.box().row("proof", at(), 4, 15).takes(0).row("proof", at(), 4, 4 + 8 + 16 + 32);
    // smooth: five (two couples share a line), and six, three couples turned to one another
    fresh().tread(0, 1).puts(0, 1, 0, 3, 2, 2, 1, 2, 3, 2).row("proof", at(), 5, 31);
    fresh().tread(0, 1).puts(0, 1, 0, 3, 1, 2, 3, 2, 2, 1, 2, 3).row("proof", at(), 6, 63);
    fresh().row("proof", at(), NO, NO, NO, NO, NO, NO);
    says("with four: the whole numbers above 0 in lowest terms by which they make 0 0 0.");
    pinch().row("proof", at(), 4, 15, 1, 1, 1, 1);
    // (1, 2, 0), (-1, 2, -4), three times (-1, 0, 0), (3, -4, 4)
    on("0,0;6,0;3,6").tread(1, 2).puts(0, 1, 1, 1, 2, 2).row("proof", at(), 4, 23, 1, 1, 3, 1);
    // 7 (1, -3, 3), 1 (3, 1, -1), 5 (1, 1, 2), 15 (-1, 1, -2)
    on("0,0;6,0;3,6").tread(3, 3).puts(2, 2, 0, 2, 1, 2).row("proof", at(), 4, 15, 7, 1, 5, 15);
    fresh().tread(0, 1).puts(0, 1, 0, 3, 2, 2, 1, 2, 3, 2).row("proof", at(), 5, 31, -2, -2, -2, -2);
  }

  private static void needed() {
    says("NEEDED: FINGERS without which it is not FIRM.");
    pinch().due(3, "count", 11).puts(1, 2).due(3, "count", 11).puts(3, 2).due(0, "count", 11).takes(0).due(6, "count", 11)
        .takes(0).due(3, "count", 11).takes(0).due(-2, "count", 11);
    says("LEAST: the fewest FINGERS that are FIRM by themselves (of as few the least set as bits).");
    pinch().due(2, "count", 12).due(3, "count", 13).puts(1, 2, 3, 2).due(3, "count", 13).takes(1).due(6, "count", 13)
        .due(2, "count", 12).takes(1).due(-2, "count", 12).due(-2, "count", 13);
    fresh().tread(0, 1).puts(0, 1, 0, 3, 1, 2, 3, 2, 2, 1, 2, 3).due(6, "count", 12).due(63, "count", 13).due(63, "count", 11);
    // two of them, though the first three, a lesser set, are firm as well
    on("0,0;6,0;3,6").tread(3, 2).puts(0, 1, 2, 1, 1, 1, 1, 2).due(2, "count", 12).due(9, "count", 13).takes(3).due(3, "count", 12)
        .due(7, "count", 13);
    // smooth: the first of six is not wanted
    fresh().tread(0, 1).puts(0, 2, 0, 1, 0, 3, 2, 2, 1, 2, 3, 2).due(62, "count", 11).due(5, "count", 12).due(62, "count", 13)
        .row("proof", at(), 5, 62).due(1, "finger", 0, 5).due(0, "finger", 1, 5);
    says("SAFE by k: FIRM whichever k FINGERS are gone.");
    Play.box().row("safe", at(), 1, 1, 0, 0, 0, 0, 0);
    pinch().row("safe", at(), 1, 0, 0, 0, 0, 0, 0).due(NONE, "safe", 7).due(NONE, "safe", -1);
    // three above one another each way: any two may go
    fresh().puts(0, 1, 0, 2, 0, 3, 2, 1, 2, 2, 2, 3).row("safe", at(), 1, 1, 1, 0, 0, 0, 0);
    fresh().row("safe", at(), 0, 0, 0, 0, 0, 0, 0);
  }

  // ---- places elsewhere ----

  private static void best() {
    says("BEST: of PLACES without a FINGER the one by which (as a further FINGER, a seventh, too) WEAKEST is greatest");
    fresh().puts(0, 2).row("best", at(), 2, 2, 2, 5).due(1, "count", 2);
    fresh().puts(0, 1).row("best", at(), 2, 3, 1, 3);
    fresh().puts(0, 1, 0, 2, 0, 3, 1, 1, 1, 2, 1, 3).row("best", at(), 2, 3, 1, 2).due(6, "count", 2);
    says("; of like ones the first; none, if it is FIRM by none.");
    // a third changes nothing: all places are alike, the first without a finger is told
    pinch().row("best", at(), 0, 1, 2, 5);
    fresh().row("best", at(), -2, -2, -2, -2);
    pinch().tread(0, 1).row("best", at(), -2, -2, -2, -2);
    // firm, but each place has its finger
    on("0,0;2,0;2,2;0,2").puts(0, 1, 1, 1, 2, 1, 3, 1).due(1, "count", 5).row("best", at(), -2, -2, -2, -2)
        .takes(0).row("best", at(), 0, 1);
  }

  private static void slide() {
    says("SLIDE of a FINGER: from where it is, step by step on its EDGE, by PLACES without another, FIRM at each (now, too).");
    pinch().row("slide", at(0), 1, 3).row("slide", at(1), 1, 3).puts(0, 3).row("slide", at(0), 1, 2)
        .row("slide", at(2), 3, 3).puts(0, 1).row("slide", at(0), 2, 2).row("slide", at(2), 3, 3);
    // 2 high: 1 by 1 reaches less than two steps aside
    on("0,0;9,0;9,2;0,2").puts(0, 4, 2, 5).row("slide", at(0), 3, 5).row("slide", at(1), 4, 6);
    on("0,0;9,0;9,2;0,2").puts(0, 1, 2, 8).row("slide", at(0), 1, 2);
    on("0,0;9,0;9,2;0,2").puts(0, 8, 2, 1).row("slide", at(0), 7, 8);
    fresh().puts(0, 2).row("slide", at(0), -2, -2);
    pinch().tread(0, 1).row("slide", at(0), -2, -2).tread(1, 3).row("slide", at(0), 1, 3);
  }

  private static void rough() {
    says("ROUGH: of TREADS the least m by q by which it is FIRM, in lowest terms (0 by 1); none.");
    Play smooth = fresh().puts(0, 1, 0, 3, 2, 2, 1, 2, 3, 2);
    smooth.row("rough", at(), 0, 1).tread(0, 3).row("rough", at(), 0, 1);
    leastTread(pinch(), 1, 3);
    leastTread(fresh().puts(0, 1, 2, 1), 2, 3);
    leastTread(on("0,0;4,2;2,4").puts(2, 1, 0, 1), 1, 2);
    leastTread(on("2,4;2,2;6,0;8,0;6,8").puts(1, 1, 4, 3), 1, 1);
    leastTread(on("9,0;9,9;0,6;0,3").puts(1, 1, 3, 1), 3, 2);
    leastTread(on("0,7;1,2;9,0;7,4").puts(2, 1, 1, 1), 2, 1);
    leastTread(on("9,3;3,9;0,6").puts(1, 1, 2, 2), 3, 1);
    fresh().row("rough", at(), -2, -2).puts(0, 2).row("rough", at(), -2, -2).puts(0, 1, 0, 3).row("rough", at(), -2, -2);
    // at right angles, as far as 3 by 1 goes, still not
    fresh().puts(0, 3, 1, 3).tread(3, 1).due(0, "count", 5).row("rough", at(), -2, -2);
  }

  /** Tries each TREAD by hand: it is FIRM from m by q on, not below. */
  private static void leastTread(Play play, int m, int q) {
    play.row("rough", at(), m, q);
    for (int a = 0; a <= 3; a++) {
      for (int b = 1; b <= 3; b++) play.tread(a, b).due(a * q >= m * b ? 1 : 0, "count", 5).row("rough", at(), m, q);
    }
  }

  private static void opposite() {
    says("OPPOSITE are two unlike PLACES if the way from each to the other lies in its cone: makes no less than 0 with N, and q times what it makes with T, without sign, is no more than m times what it makes with N.");
    // places 0 to 2 below, 3 to 5 right, 6 to 8 above, 9 to 11 left; 0 and 6 are 2 aside, 4 across
    Play play = fresh().each(0, "opposite", 1, 1, 0, 1, 1, 0, 0, 2).each(1, "opposite", 0, 6, 6, 0, 0, 7, 0, 8);
    play.tread(1, 2).each(1, "opposite", 0, 6, 6, 0).tread(1, 3).each(0, "opposite", 0, 6, 6, 0).each(1, "opposite", 0, 7)
        .tread(0, 1).each(0, "opposite", 0, 7, 0, 6).each(1, "opposite", 0, 8, 8, 0, 3, 11).due(6, "count", 16);
    // side by side on one edge never, rough as it may be; from below to the right it takes both cones
    play.tread(3, 1).each(0, "opposite", 0, 1, 0, 2).each(1, "opposite", 0, 3, 0, 4, 0, 5, 2, 3).tread(1, 1)
        .each(1, "opposite", 0, 5, 5, 0, 2, 3).each(0, "opposite", 0, 3, 3, 0, 0, 4, 4, 0);
    // aslant: from (4, 1), 6 across, to (1, 4), (2, 5), (3, 6), (4, 7), which are 0, 2, 4, 6 aside
    Play aslant = on("0,3;3,0;9,6;6,9").row("place", at(2), 1, 1, 4, 1).row("place", at(13), 3, 5, 1, 4);
    int[][] treads = {{0, 1}, {1, 3}, {2, 3}, {1, 1}};
    for (int i = 0; i < 4; i++) {
      aslant.tread(treads[i][0], treads[i][1]);
      for (int j = 0; j < 4; j++) aslant.due(j <= i ? 1 : 0, "opposite", 2, 13 - j).due(j <= i ? 1 : 0, "opposite", 13 - j, 2);
    }
    says("(That does not ask what is between.)");
    // yoke: (9, 5) and (0, 5), with the gap between them; (6, 5) and (3, 5) are back to back
    Play yoke = on(YOKE).tread(0, 1);
    yoke.row("place", at(12), 1, 5, 9, 5).row("place", at(40), 7, 5, 0, 4).row("place", at(39), 7, 4, 0, 5).due(1, "opposite", 12, 39);
    yoke.row("place", at(21), 3, 4, 6, 5).row("place", at(30), 5, 4, 3, 5).due(0, "opposite", 21, 30).due(1, "opposite", 12, 21)
        .due(1, "opposite", 30, 39);
  }

  private static void weight() {
    says("WEIGHT: a PUSH by (gx, gy) (-9 to 9 each) at the middle of the PLATE (of its area).");
    pinch().row("weight", at(0, -9), 9, 1).row("weight", at(9, 9), 18, 1).row("weight", at(-9, 9), 18, 1)
        .row("weight", at(0, 0), 0, 1).each(NO, "weight", 10, 0, 0, -10, 0, 0, 0, 10, 0, 0, -10, 0, 9, 10, 1);
    // three squares, their middle at (5/2, 5/2); not the middle of corners, (3, 3), nor of the edges
    on(ELL).tread(0, 1).puts(0, 2, 0, 3).row("weight", at(0, -1), 1, 1).takes(1).puts(0, 1).row("weight", at(0, -1), NO, NO)
        .takes(0, 0).puts(0, 3, 0, 4).row("weight", at(0, -1), NO, NO);
    on("0,0;4,0;0,4").tread(0, 1).puts(0, 1, 0, 2).row("weight", at(0, -3), 3, 1).takes(0).row("weight", at(0, -3), NO, NO);
    // turned with the plate, about another centre
    on(ELL).tread(0, 1).puts(0, 2, 0, 3).centre(9, 7).row("weight", at(0, -1), 1, 1).due(0, "turn")
        .row("weight", at(1, 0), 1, 1).row("weight", at(0, -1), NO, NO);
  }

  private static void tilt() {
    says("TILT: of eight (gx, gy): (1, 0), (1, 1), (0, 1), (-1, 1), (-1, 0), (-1, -1), (0, -1), (1, -1), numbered from 0, those for which WEIGHT is HELD with an EFFORT of no more than a limit.");
    pinch().due(0, "tilt", 0).due(0x55, "tilt", 1).due(0xff, "tilt", 2).due(0xff, "tilt", 10000);
    // smooth, one finger on each side holds one; two at a corner hold three
    fresh().puts(0, 2).due(1 << 6, "tilt", 10000).tread(0, 1).due(1 << 6, "tilt", 1).due(0, "tilt", 0);
    fresh().tread(0, 1).puts(1, 2).due(1, "tilt", 1).takes(0).puts(2, 2).due(1 << 2, "tilt", 1).takes(0).puts(3, 2)
        .due(1 << 4, "tilt", 1).puts(0, 2).due(1 << 4 | 1 << 5 | 1 << 6, "tilt", 2).due(1 << 4 | 1 << 6, "tilt", 1)
        .takes(0).puts(1, 2).due(1 | 1 << 6 | 1 << 7, "tilt", 2).takes(0).puts(2, 2).due(7, "tilt", 2).takes(0).puts(3, 2)
        .due(4 | 8 | 16, "tilt", 2);
  }

  private static void storm() {
    says("STORM of n: aside, three times a PUSH: X = (25173 X + 13849) modulo 65536 (THE SEED at first, 1; it stays as it was), X modulo 21, less 10: fx, then fy, then X modulo 101, less 50: t.");
    // X 1, 39022, 61087, 20196: (-6, 9, 47), effort 53 by 2; then 45005, 3882, 21259: (-8, 8, -1)
    pinch().due(1, "count", 15).due(0, "storm", 1, 26).due(1, "storm", 1, 27).row("effort", at(-8, 8, -1), 33, 2)
        .due(0, "storm", 2, 16).due(1, "storm", 2, 17).due(2, "storm", 2, 27).due(1, "count", 15);
    // X 49: (-10, -6, -12), effort 10; X 65535: 54212, 36397, 42250: (1, -6, -18), effort 16
    pinch().due(1, "seed", 49).row("effort", at(-10, -6, -12), 10, 1).due(0, "storm", 1, 9).due(1, "storm", 1, 10)
        .due(1, "storm", 1, 10).due(49, "count", 15);
    pinch().due(1, "seed", 65535).row("effort", at(1, -6, -18), 16, 1).due(0, "storm", 1, 15).due(1, "storm", 1, 16)
        .due(65535, "count", 15);
    // X 0: 13849, 48742, 31223: (0, -9, -36), effort 27
    pinch().due(1, "seed", 0).row("effort", at(0, -9, -36), 27, 1).due(0, "storm", 1, 26).due(1, "storm", 1, 27);
  }

  private static void two() {
    says("TWO: of couples of PLACES (the lower one first; FINGERS aside) those that are FIRM by themselves; of them that with the greatest WEAKEST (of like ones the first).");
    // each of three below with each of three above, and so from side to side
    fresh().row("two", at(), 18, 1, 7, 2, 5).puts(0, 2, 2, 2, 1, 1).row("two", at(), 18, 1, 7, 2, 5).tread(0, 1)
        .row("two", at(), 0, -2, -2, -2, -2);
    on("0,0;2,0;2,2;0,2").row("two", at(), 2, 0, 2, 1, 5).puts(0, 1, 2, 1).row("weak", at(), 1, 5).takes(0, 0)
        .puts(1, 1, 3, 1).row("weak", at(), 1, 5);
    on("0,0;1,0;0,1").row("two", at(), 0, -2, -2, -2, -2);
    on("0,0;2,0;0,1").due(1, "count", 6).row("two", at(), 0, -2, -2, -2, -2);
  }

  private static void loads() {
    says("LOADS, 6 at most (none at first): PUSHES by a TEXT of at most 60 bytes: fx,fy,t with a ; between two, each one to three digits, perhaps a - ahead");
    String six = "1,1,1;2,2,2;3,3,3;4,4,4;5,5,5;6,6,6";
    fresh().due(0, "load", 0).loads(6, six).due(6, "load", 0).loads(1, "-999,999,-0").due(1, "load", 0);
    fresh().loads(5, "-11,-22,-33;-1,-2,-3;100,200,300;-999,999,-999;1,-234,23");
    fresh().feed("-999,-999,-999;".repeat(5)).due(NONE, "loads", 61).due(-1060, "loads", 60);
    fresh().puts(0, 2).loads(3, "-1,-1,-02;000,-7,0;1,1,2").due(3, "load", 1).due(7, "load", 2)
        .loads(1, "0,-987,0").due(987, "load", 2).loads(1, "-12,-34,-24").row("load", at(), 1, 1, 34, 1);
    says("FAULTS 1, 4 (a seventh LOAD, where it begins, whatever stands there, the end, too: ahead of 1), 2 a fourth digit, at it.");
    String[] wrong = {"1", "1,", "1,2", "1,2,", "1,2,3;", "1,2,3,", "-", "--1,2,3", "1,-,3", "+1,2,3", "1, 2,3", "1;2;3", "x",
      "1,2,3 ", ",1,2", ";1,2,3", "1,2,3;;", "1,2,3-"};
    int[] places = {1, 2, 3, 4, 6, 5, 1, 1, 3, 0, 2, 1, 0, 5, 0, 0, 6, 5};
    for (int i = 0; i < wrong.length; i++) fresh().loads(-1000 - places[i], wrong[i]);
    fresh().loads(-4036, six + ";").loads(-4036, six + ";7,7,7").loads(-4036, six + ";x").loads(-4036, six + ";;")
        .loads(-1035, six + ",").loads(-2037, six + "666")
        .loads(-2003, "1000,2,3").loads(-2004, "-1000,2,3").loads(-2005, "1,2000,3").loads(-2007, "1,2,3000")
        .loads(-2003, "00000,2,3").loads(-1002, "1,x,3000").loads(-2003, "1000,x,3");
  }

  // ---- what was done ----

  private static void turn() {
    says("A TURN: CORNERS, FINGERS, CENTRE a quarter round: (x, y) becomes (9 less y, x); numbers of EDGES, steps stay.");
    Play play = pinch().centre(0, 9).due(1, "turn").row("corner", at(0), 9, 0).row("corner", at(1), 9, 4)
        .row("corner", at(2), 5, 4).row("corner", at(3), 5, 0).due(0, "count", 9).due(0, "count", 10)
        .row("finger", at(0), 0, 2, 9, 2).row("finger", at(1), 2, 2, 5, 2).row("edge", at(0), 0, 1, -1, 0, 4);
    play.due(1, "turn").row("corner", at(0), 9, 9).due(9, "count", 9).due(0, "count", 10).due(1, "turn")
        .row("corner", at(0), 0, 9).due(9, "count", 9).due(9, "count", 10).due(1, "turn").row("corner", at(0), 0, 0)
        .row("corner", at(1), 4, 0).due(0, "count", 9).due(9, "count", 10).row("finger", at(1), 2, 2, 2, 4);
    fresh().due(0, "turn").due(7, "count", 9).due(2, "count", 10);
  }

  private static void past() {
    says("PAST: the latest 20 that were done, by hand or by ORDERS (a PLATE that is told forgets them): 0 a FINGER came, 1 one was taken, 2 TREAD, 3 CENTRE, 4 a TURN; FINGERS, whether FIRM, RANK then.");
    Play play = fresh().due(NONE, "past", 0, 0).puts(0, 2, 2, 2).centre(1, 1).tread(0, 1).takes(0).due(0, "turn");
    play.row("past", at(0), 4, 1, 0, 1).row("past", at(1), 1, 1, 0, 1).row("past", at(2), 2, 2, 0, 1)
        .row("past", at(3), 3, 2, 1, 3).row("past", at(4), 0, 2, 1, 3).row("past", at(5), 0, 1, 0, 2).due(NONE, "past", 6, 0);
    play.orders(2, "tread 1 1;put 0 1").row("past", at(0), 0, 2, 1, 3).row("past", at(1), 2, 1, 0, 2).due(NONE, "past", 8, 0);
    play.orders(12, "tread 1 1;".repeat(11) + "tread 1 2").row("past", at(19), 0, 1, 0, 2).due(NONE, "past", 20, 0);
    play.takes(0).row("past", at(0), 1, 1, 0, 2).row("past", at(19), 0, 2, 1, 3).due(NONE, "past", 20, 0);
    play.plate(-5003, "0,0").row("past", at(19), 0, 2, 1, 3).plate(3, "0,0;4,0;0,4").due(NONE, "past", 0, 0).puts(0, 1)
        .row("past", at(0), 0, 1, 0, 2).due(NONE, "past", 1, 0);
  }

  private static void kept() {
    says("KEPT are PLATE, FINGERS, TREAD, CENTRE, X, PAST, LOADS; UNDONE: as it was KEPT last.");
    Play play = pinch().centre(1, 3).tread(2, 3).loads(2, "1,2,3;0,-4,0").due(1, "seed", 65535).due(2, "keep");
    String before = play.look();
    play.plate(6, ELL).puts(0, 1).tread(3, 1).centre(9, 9).due(1, "seed", 0).loads(1, "9,9,9").feed("left on the tape")
        .due(20, "count", 14).due(1, "undo").due(20, "count", 14);
    Expect.holds("as it was kept", before.equals(play.look()));
    play.takes(0).due(0, "turn").due(1, "undo");
    Expect.holds("as it was kept, again", before.equals(play.look()));
    play.takes(1).due(1, "keep").puts(1, 1).due(1, "undo").due(1, "count", 2).row("past", at(0), 1, 1, 0, 2);
    fresh().due(0, "undo").due(0, "keep").puts(0, 1).due(1, "undo").due(0, "count", 2).due(NONE, "past", 0, 0);
    // all six fingers, twenty of the past and six loads come back
    Play full = fresh().loads(6, "0,-1,0;0,-2,0;0,-3,0;0,-4,0;0,-5,0;0,-9,0").orders(12, "tread 1 1;".repeat(11) + "tread 1 2")
        .puts(0, 1, 0, 2, 0, 3, 1, 1, 1, 2, 1, 3).centre(3, 4).due(0, "turn").due(6, "keep");
    before = full.look();
    full.orders(12, "tread 0 1;".repeat(11) + "tread 0 1").takes(0, 0, 0, 0, 0, 0).puts(3, 1, 3, 2).loads(6, "9,9,9;".repeat(5) + "9,9,9");
    Expect.holds("all is changed", !before.equals(full.look()));
    full.due(1, "undo");
    Expect.holds("all is back", before.equals(full.look()));
  }

  private static void check() {
    says("CHECK: FINGERS' PLACES (EDGE, then step): right (those told; they may be fewer), or the first number that is not so.");
    Play play = fresh().puts(0, 3, 2, 1).check(NONE, 0, 3, 2, 1).check(NONE, 0, 3, 2).check(NONE, 0, 3).check(NONE, 0).check(NONE)
        .check(0, 1, 3, 2, 1).check(1, 0, 1, 2, 1).check(2, 0, 3, 0, 1).check(3, 0, 3, 2, 2).check(0, 1, 1, 1, 1)
        .check(4, 0, 3, 2, 1, 0).check(0, 255).check(1, 0, 255);
    play.takes(0).check(NONE, 2, 1).check(0, 0, 3);
  }

  private static void refused() {
    says("All memory is the judge's own.");
    Play one = pinch();
    Play other = fresh().plate(6, ELL).tread(3, 1).puts(1, 1).due(1, "seed", 9).loads(1, "1,1,1").due(1, "keep");
    String before = one.look();
    other.feed("0,0;4,0;0,4").due(1, "undo").due(20, "count", 14);
    Expect.holds("the one stays", before.equals(one.look()));
    one.due(0, "count", 14).due(0, "undo").row("weak", at(), 2, 5).row("best", at(), 0, 1);
    says("A call that is refused (NONE, -2 to -9, false) changes nothing but the tape, where it is told.");
    Play plain = prepared();
    Play tried = prepared().each(NONE, "put", 9, 1, 0, 0).each(-2, "put", 0, 2).each(NONE, "take", 6, -1)
        .each(NONE, "tread", 4, 1).each(NONE, "centre", 10, 1).each(0, "seed", -1, 65536).each(NONE, "plate", 0, 61, 5)
        .each(NONE, "orders", 0, 121, 5).each(NONE, "loads", 0, 61, 5).each(-2, "check", -1, 13, 5)
        .plate(-1000, "x").plate(-5003, "0,0").orders(-1000, "x").orders(-4084, "take 0;".repeat(12)).loads(-1000, "x")
        .check(0, 9).each(NONE, "storm", 0, 1).each(NONE, "tilt", -1).orders(0, "take 9");
    Expect.holds("all is as without them", plain.look().equals(tried.look()));
    plain.due(1, "undo");
    tried.due(1, "undo");
    Expect.holds("what was kept, too", plain.look().equals(tried.look()));
    says("Of several reasons NONE comes first.");
    fresh().puts(0, 1, 0, 2, 0, 3, 1, 1, 1, 2, 1, 3).each(NONE, "put", 0, 0, 9, 9).each(-2, "put", 0, 1).each(-3, "put", 2, 1)
        .each(NONE, "slide", 0, 2, 6, 0).each(-2, "slide", 0, 0);
    fresh().each(NONE, "rough", 2, -1).each(NO, "best", 4, -1).each(NONE, "slide", 0, 0);
  }

  /** Something kept, and other things done since. */
  private static Play prepared() {
    return pinch().loads(2, "1,2,3;0,-4,0").due(1, "seed", 7).due(2, "keep").tread(2, 1).puts(1, 1).centre(3, 3);
  }

  private static void constants() {
    says("The constants: `NONE = -1`: There is none.");
    Expect.due("NONE", GraspJudge.NONE, -1);
    says("`NO_NUMBER = -9000000000000000000L`: What is told where a number is asked for and there is none.");
    Expect.due("NO_NUMBER", GraspJudge.NO_NUMBER, -9000000000000000000L);
    fresh().due(-9000000000000000000L, "weak", 0).due(-1, "past", 0, 0);
  }
}
