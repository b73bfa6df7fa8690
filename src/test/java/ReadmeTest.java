import java.io.IOException;
import java.nio.file.Files;
import java.nio.file.Path;
import java.util.List;

/** The example of README.md: its calls are made here, and each must tell there what it answers. */
public final class ReadmeTest extends Check {
  private static final Path README = Path.of("README.md");

  public static void main(String[] args) throws IOException {
    List<String> lines = Files.readAllLines(README);
    example(lines);
    callsAreNamed(String.join("\n", lines));
    end("readme");
  }

  private static void example(List<String> lines) {
    MeridianSeries store = new MeridianSeries();
    int series = store.addSeries(3, 4);
    tells(lines, "int series = store.addSeries(3, 4);", series);
    tells(lines, "store.goOn(60);", store.goOn(60));
    tells(lines, "store.putRow(series, 0, 10, 3, 2, 17);", store.putRow(series, 0, 10, 3, 2, 17));
    tells(lines, "store.put(series, 45, 7);", store.put(series, 45, 7));
    tells(lines, "store.blocks(series);", store.blocks(series));
    tells(lines, "store.bits(series, 0);", store.bits(series, 0));
    tells(lines, "store.setQuery(0, 12, 6, 2);", store.setQuery(0, 12, 6, 2));
    tells(lines, "store.ask(series, 0);", store.ask(series, 0));
    tells(lines, "store.ask(series, 6);", store.ask(series, 6));
    tells(lines, "store.over(true, 4, 3, 0);", store.over(true, 4, 3, 0));
    tells(lines, "store.setKeep(20, 0);", store.setKeep(20, 0));
    int rule = store.addRule(series, 0, 30, 10, false, 5, 2);
    tells(lines, "int rule = store.addRule(series, 0, 30, 10, false, 5, 2);", rule);
    tells(lines, "store.firesIn(100);", store.firesIn(100));
    tells(lines, "store.goOn(20);", store.goOn(20));
    tells(lines, "store.stateOf(rule);", store.stateOf(rule));
    tells(lines, "store.event(0, 0);", store.event(0, 0));
    tells(lines, "store.buckets(series, false);", store.buckets(series, false));
    tells(lines, "store.ofBucket(series, false, 1, 2);", store.ofBucket(series, false, 1, 2));
    is("calls of the example", lines.stream().filter(ReadmeTest::isCall).count(), 19);
  }

  private static boolean isCall(String line) {
    return line.contains(";") && line.contains("//");
  }

  /** The line with that call must have the answer first in its comment. */
  private static void tells(List<String> lines, String call, int answer) {
    String told = "not there";
    for (String line : lines) {
      if (line.startsWith(call)) {
        told = line.replaceFirst(".*?// (-?[0-9]+):.*", "$1");
      }
    }
    isText("README.md, " + call, told, String.valueOf(answer));
  }

  private static void callsAreNamed(String text) {
    for (java.lang.reflect.Method method : MeridianSeries.class.getDeclaredMethods()) {
      if (java.lang.reflect.Modifier.isPublic(method.getModifiers())) {
        String name = method.getName();
        isText("README.md names " + name, text.contains("`" + name + "`") ? "so" : "not so", "so");
      }
    }
  }
}
