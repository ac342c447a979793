import java.lang.reflect.Constructor;
import java.lang.reflect.Field;
import java.lang.reflect.Method;
import java.lang.reflect.Modifier;
import java.nio.file.Files;
import java.nio.file.Path;
import java.util.ArrayList;
import java.util.Arrays;
import java.util.List;
import java.util.Set;
import java.util.TreeSet;
import java.util.regex.Matcher;
import java.util.regex.Pattern;

/** The face of the document, and those rules of LANGUAGE.md that a program can look after. */
public final class LanguageTest {
  private static final String[] FACE = {
    "int feed(int,int,int,int,int)", "int plate(int)", "int orders(int)", "int put(int,int)", "int take(int)",
    "int tread(int,int)", "int centre(int,int)", "int turn()", "int past(int,int)", "int loads(int)", "long load(int)",
    "int count(int)", "int corner(int,int)", "long edge(int,int)", "int place(int,int)", "int inside(int,int)",
    "int finger(int,int)", "long wrench(int,int)", "long free(int)", "long frees(int,int)", "int held(int,int,int)",
    "long effort(int,int,int,int)", "long holder(int,int,int,int,int)", "long weak(int)", "long proof(int)",
    "int safe(int)", "long best(int)", "long two(int)", "int slide(int,int)", "int rough(int)", "int opposite(int,int)",
    "long weight(int,int,int)", "int tilt(int)", "int storm(int,int)", "boolean seed(int)", "int keep()",
    "boolean undo()", "int check(int)"};

  public static void main(String[] args) throws Exception {
    face();
    String source = Files.readString(Path.of("src/main/java/GraspJudge.java"));
    String code = bare(source);
    words(code);
    methods(code);
    depths();
    Expect.finish();
  }

  private static void face() {
    Class<?> judge = GraspJudge.class;
    Expect.holds("public and final", Modifier.isPublic(judge.getModifiers()) && Modifier.isFinal(judge.getModifiers()));
    Set<String> open = new TreeSet<>();
    Set<String> names = new TreeSet<>();
    for (Method m : judge.getDeclaredMethods()) {
      if (Modifier.isPrivate(m.getModifiers()) || m.isSynthetic()) continue;
      Expect.holds("public: " + m, Modifier.isPublic(m.getModifiers()) && !Modifier.isStatic(m.getModifiers()));
      String types = String.join(",", Arrays.stream(m.getParameterTypes()).map(Class::getName).toArray(String[]::new));
      open.add(m.getReturnType().getName() + " " + m.getName() + "(" + types + ")");
      names.add(m.getName());
    }
    Set<String> due = new TreeSet<>(Arrays.asList(FACE));
    Expect.holds("the face is " + open, open.equals(due));
    for (Constructor<?> c : judge.getDeclaredConstructors()) {
      Expect.holds("one constructor", Modifier.isPublic(c.getModifiers()) && c.getParameterCount() == 0);
    }
    Set<String> fields = new TreeSet<>();
    for (Field f : judge.getDeclaredFields()) if (!Modifier.isPrivate(f.getModifiers())) fields.add(f.getName());
    Expect.holds("constants " + fields, fields.equals(new TreeSet<>(List.of("NONE", "NO_NUMBER"))));
    inner(names);
  }

  private static void inner(Set<String> names) {
    List<Class<?>> all = new ArrayList<>(List.of(GraspJudge.class));
    all.addAll(List.of(GraspJudge.class.getDeclaredClasses()));
    Expect.holds("at most twelve classes", all.size() <= 12);
    for (Class<?> c : all) {
      int fields = 0;
      for (Field f : c.getDeclaredFields()) {
        if (!Modifier.isStatic(f.getModifiers())) fields++;
        else Expect.holds("final: " + f, Modifier.isFinal(f.getModifiers()));
      }
      Expect.holds("at most twenty fields in " + c, fields <= 20);
      for (Method m : c.getDeclaredMethods()) {
        Expect.holds("at most seven parameters: " + m, m.getParameterCount() <= 7);
        boolean hidden = c != GraspJudge.class || Modifier.isPrivate(m.getModifiers());
        Expect.holds("a public one's name: " + m, !hidden || !names.contains(m.getName()));
      }
      if (c != GraspJudge.class) Expect.holds("static: " + c, Modifier.isStatic(c.getModifiers()));
    }
  }

  /** Calls go at most eight deep, the library's counted too, and none comes back to itself. */
  private static void depths() throws Exception {
    for (List<String> chain : Calls.chains()) {
      Expect.holds("too deep: " + chain, chain.size() <= 8);
      Expect.holds("a recursion: " + chain, !chain.get(chain.size() - 1).startsWith("and so on"));
    }
  }

  /** The source without comments and what stands in texts. */
  private static String bare(String source) {
    return source.replaceAll("(?s)/\\*.*?\\*/", "").replaceAll("//[^\n]*", "").replaceAll("\"[^\"]*\"", "\"\"");
  }

  private static void words(String code) {
    String[] never = {"throw", "throws", "try", "catch", "finally", "synchronized", "assert", "import", "package", "var",
      "double", "float", "protected", "volatile", "transient", "native", "Object", "System.out", "System.nanoTime",
      "Thread", "hashCode", "toString", "equals"};
    for (String word : never) {
      Expect.holds("no " + word, !Pattern.compile("\\b" + word.replace(".", "\\.") + "\\b").matcher(code).find());
    }
    Expect.holds("no lambda", !code.contains("->"));
    Expect.holds("no method reference", !code.contains("::"));
    Expect.holds("no Exact", !Pattern.compile("Exact\\b").matcher(code).find());
    Expect.holds("no static block", !Pattern.compile("static\\s*\\{").matcher(code).find());
    Matcher library = Pattern.compile("\\b(Math|Integer|Long|System|Arrays)\\.(\\w+)").matcher(code);
    Set<String> allowed = Set.of("max", "min", "abs", "bitCount", "signum", "compare", "arraycopy");
    while (library.find()) Expect.holds("library: " + library.group(), allowed.contains(library.group(2)));
  }

  /** Short methods; and nothing is made but in constructors and fields, so that no run of calls fills the room. */
  private static void methods(String code) {
    String[] lines = code.split("\n");
    int begin = -1;
    String indent = "";
    String name = "";
    for (int i = 0; i < lines.length; i++) {
      String line = lines[i];
      Matcher head = Pattern.compile("^( {4}| {8})((?:[\\w\\[\\]]+ )*)(\\w+)\\(.*\\) \\{$").matcher(line);
      if (begin < 0 && head.find()) {
        begin = i;
        indent = head.group(1);
        name = head.group(2) + head.group(3);
      }
      boolean constructor = name.equals("public GraspJudge");
      if (begin >= 0 && !constructor) Expect.holds(name + " makes nothing", !line.matches(".*\\bnew\\b.*"));
      if (begin >= 0 && line.equals(indent + "}")) {
        Expect.holds(name + " is short", i - begin <= 60);
        begin = -1;
        name = "";
      }
    }
  }
}
