import java.util.Random;

/** FAULTS of plates, orders and loads (promises 3, 4, 11): by hand, and beside regular expressions. */
public final class TextsTest {
  private static final String EIGHT = "2,0;4,0;6,2;6,4;4,6;2,6;0,4;0,2";
  private static final String TWELVE = "take 1;".repeat(12);
  private static final String SIX = "1,1,1;2,2,2;3,3,3;4,4,4;5,5,5;6,6,6";

  public static void main(String[] args) {
    plates();
    noPlates();
    orders();
    loads();
    spoiled();
    Expect.finish();
  }

  private static void plate(String text, int want) {
    Expect.due("plate " + text, Expect.plate(new GraspJudge(), text), want);
  }

  private static void plates() {
    plate("0,0;4,0;0,4", 3);
    plate(EIGHT, 8);
    plate("x", -1000);
    plate("0", -1001);
    plate("0,", -1002);
    plate("0,0", -5003);
    plate("0,0;", -1004);
    plate("0;0", -1001);
    plate("00,0", -1001);
    plate("0,00", -1003);
    plate("0,0,4", -1003);
    plate("0,0;;", -1004);
    plate(" 0,0", -1000);
    plate("-1,0;4,0;0,4", -1000);
    plate("0,0;4,0;0,4 ", -1011);
    plate(EIGHT + ";", -1032);
    plate(EIGHT + ";x", -1032);
    plate(EIGHT + ";1", -4032);
    plate(EIGHT + ";1,1", -4032);
    plate(EIGHT + ",", -1031);
    plate("0,0;0,0;0,0;0,0;0,0;0,0;0,0;0,0;9", -4032);
  }

  private static void noPlates() {
    plate("0,0;4,0", -5007);
    plate("0,0;0,4;4,0", -5011);
    plate("0,0;2,0;4,0", -5011);
    plate("0,0;2,0;4,0;0,4", -5015);
    plate("0,0;4,0;2,0;0,4", -5015);
    plate("0,0;0,0;4,0;0,4", -5015);
    plate("0,0;4,4;4,0;0,4", -5015);
    plate("0,0;4,0;0,4;0,0", -5015);
    // a corner on another edge, a corner on a corner, an edge on an edge
    plate("0,0;8,0;8,8;4,0;0,8", -5019);
    plate("0,0;4,0;4,4;6,6;2,6;4,4;0,4", -5027);
    plate("0,0;9,0;9,2;5,2;5,0;3,0;3,4;0,4", -5031);
    // neighbours' neighbours cross, with an area above 0
    plate("0,2;9,2;9,9;1,0", -5015);
    plate("0,0;6,6;0,3;9,0;9,9", -5019);
    // round twice
    plate("0,0;9,0;9,9;1,9;1,1;8,1;8,8;0,8", -5031);
    // only just apart
    plate("0,0;8,0;8,8;4,1;0,8", 5);
    plate("0,0;9,0;9,9;6,9;6,3;3,3;3,9;0,9", 8);
  }

  private static void order(String text, int want) {
    GraspJudge x = new GraspJudge();
    for (int i = 0; i < 6; i++) x.put(i / 3, 1 + i % 3);
    Expect.due("orders " + text, Expect.orders(x, text), want);
  }

  private static void orders() {
    order("take 0", 1);
    order("take 00", 1);
    order("take 000", -2007);
    order("take", -1004);
    order("take ", -1005);
    order("take  1", -1005);
    order("take 1 ", -1006);
    order("take 1 2", -1006);
    order("take 1;", -1007);
    order("take 1,", -1006);
    order("take1", -1004);
    order("takes 1", -1000);
    order("tak 1", -1000);
    order("takez 1", -1000);
    order("takea 1", -1000);
    order("take{1", -1004);
    order("take`1", -1004);
    order("tbke 1", -1000);
    order("abc 1 2", -1000);
    order("t", -1000);
    order("Take 1", -1000);
    order("", -1);
    order(" take 1", -1000);
    order(";", -1000);
    order("put 1", -1005);
    order("put 1 2 3", -1007);
    order("put 1 234", -2008);
    order("put 123 4", -2006);
    order("put -1 2", -1004);
    order("take 0;puts 1 2", -1007);
    order("take 0;put 1 2x", -1014);
    order("take 0;put 3 1;tread 0 1;centre 9 9", 4);
    order(TWELVE.substring(0, 83), 5);
    order(TWELVE, -4084);
    order(TWELVE + "take 1", -4084);
    order(TWELVE + "x", -4084);
    order("take x;" + TWELVE, -1005);
  }

  private static void load(String text, int want) {
    Expect.due("loads " + text, Expect.loads(new GraspJudge(), text), want);
  }

  private static void loads() {
    load("1,2,3", 1);
    load("-1,-20,-300", 1);
    load("000,-0,999", 1);
    load("1000,2,3", -2003);
    load("1,-2000,3", -2006);
    load("1,2,3333", -2007);
    load("1,2", -1003);
    load("1,2,", -1004);
    load("1,2,-", -1005);
    load("1,2,--3", -1005);
    load("1,2,+3", -1004);
    load("1,2;3", -1003);
    load("1,2,3,", -1005);
    load("1,2,3;", -1006);
    load("1,2,3; 4,5,6", -1006);
    load("-", -1001);
    load(SIX, 6);
    load(SIX + ";", -4036);
    load(SIX + ";7,7,7", -4036);
    load(SIX + ";x", -4036);
    load(SIX + ",", -1035);
  }

  private static void spoiled() {
    Random random = new Random(7);
    String[] plates = {EIGHT, EIGHT + ";1,1", "0,0;4,0;0,4"};
    String[] orders = {"put 1 2;take 0;tread 1 1;centre 2 2", TWELVE + "take 1", "put 11 22;centre 3 4"};
    String[] loads = {SIX, SIX + ";7,7,7", "-100,200,-3;4,5,6"};
    for (int i = 0; i < 40000; i++) {
      GraspJudge x = new GraspJudge();
      String text = spoil(random, plates[i % 3], 60);
      int got = Expect.plate(x, text);
      int want = Texts.plateFault(text);
      Expect.due("plate " + text, got > 0 || got <= -5000 ? 0 : got, want);
      text = spoil(random, orders[i % 3], 120);
      got = Expect.orders(x, text);
      Expect.due("orders " + text, Math.min(0, got), Texts.ordersFault(text));
      text = spoil(random, loads[i % 3], 60);
      got = Expect.loads(x, text);
      Expect.due("loads " + text, Math.min(0, got), Texts.loadsFault(text));
    }
  }

  private static String spoil(Random random, String text, int most) {
    String signs = "0123456789,;- putakerdcn" + (char) 255 + (char) 0 + "/:`{P";
    StringBuilder b = new StringBuilder(text);
    for (int i = random.nextInt(4); i > 0 && b.length() > 1; i--) {
      int at = random.nextInt(b.length());
      char sign = signs.charAt(random.nextInt(signs.length()));
      switch (random.nextInt(4)) {
        case 0: b.deleteCharAt(at); break;
        case 1: b.insert(at, sign); break;
        case 2: b.setCharAt(at, sign); break;
        default: if (random.nextInt(3) == 0) b.setLength(at + 1);
      }
    }
    if (b.length() > most) b.setLength(most);
    return b.toString();
  }
}
