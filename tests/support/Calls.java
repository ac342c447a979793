import java.io.File;
import java.io.PrintWriter;
import java.io.StringWriter;
import java.util.ArrayList;
import java.util.HashMap;
import java.util.List;
import java.util.Map;
import java.util.Set;
import java.util.TreeSet;
import java.util.regex.Matcher;
import java.util.regex.Pattern;
import java.util.spi.ToolProvider;

/** Which method of the judge calls which, read from its classes: how deep calls go, and whether one comes back to itself. */
final class Calls {
  private static final Pattern HEAD = Pattern.compile("^  (?:(?:public|private|static|final) )*[\\w\\[\\].$]* ?([\\w.$]+)\\(.*\\);$");
  private static final Pattern CALL = Pattern.compile("invoke\\w+ +#\\d+(?:, +\\d+)? +// (?:Interface)?Method (\\S+):");

  private final Map<String, Set<String>> calls = new HashMap<>();

  /** The deepest chain from each method; empty, where the tool that shows classes is not to be had. */
  static List<List<String>> chains() throws Exception {
    ToolProvider javap = ToolProvider.findFirst("javap").orElse(null);
    List<List<String>> chains = new ArrayList<>();
    if (javap == null) return chains;
    Calls calls = new Calls();
    File place = new File(GraspJudge.class.getProtectionDomain().getCodeSource().getLocation().toURI());
    for (File file : place.listFiles()) {
      String name = file.getName();
      if (!name.matches("GraspJudge(\\$\\w+)?\\.class")) continue;
      StringWriter out = new StringWriter();
      javap.run(new PrintWriter(out), new PrintWriter(out), "-p", "-c", file.getPath());
      calls.read(name.substring(0, name.length() - 6), out.toString());
    }
    for (String method : calls.calls.keySet()) chains.add(calls.deepest(method, new ArrayList<>()));
    return chains;
  }

  private void read(String type, String shown) {
    String method = null;
    for (String line : shown.split("\n")) {
      Matcher head = HEAD.matcher(line);
      if (head.find()) {
        method = type + "." + (head.group(1).equals(type) ? "<init>" : head.group(1));
        calls.putIfAbsent(method, new TreeSet<>());
      }
      Matcher call = CALL.matcher(line);
      if (method != null && call.find()) {
        String target = call.group(1).replace("\"", "");
        calls.get(method).add(target.contains(".") ? target : type + "." + target);
      }
    }
  }

  private List<String> deepest(String method, List<String> open) {
    List<String> best = new ArrayList<>(List.of(method));
    if (open.contains(method)) {
      best.add("and so on, without end");
      return best;
    }
    open.add(method);
    for (String target : calls.getOrDefault(method, Set.of())) {
      List<String> below = deepest(target, open);
      if (below.size() + 1 > best.size()) {
        best = new ArrayList<>(List.of(method));
        best.addAll(below);
      }
    }
    open.remove(method);
    return best;
  }
}
