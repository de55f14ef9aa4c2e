import java.io.IOException;
import java.lang.reflect.InvocationTargetException;
import java.net.URL;
import java.net.URLClassLoader;
import java.nio.file.Files;
import java.nio.file.Path;
import java.util.ArrayList;
import java.util.List;
import java.util.regex.Matcher;
import java.util.regex.Pattern;
import javax.tools.ToolProvider;

/**
 * Runs the examples of README.md: all its Java, one behind the other, where each line that ends in
 * "// answer" or "// answer: words" must answer so. The argument is the project's folder.
 */
public final class ReadmeTest {
  private static final Pattern ANSWERED =
      Pattern.compile("(\\S.*\\));\\s*// (-?\\d+|NONE|true|false|throws)(: .*)?");
  private static final String NAME = "ReadmeExamples";

  public static void main(String[] args) throws Exception {
    Check.promise(0, "README.md");
    StringBuilder methods = new StringBuilder();
    StringBuilder statements = new StringBuilder();
    int answers = 0;
    for (List<String> example : examples(Path.of(args.length > 0 ? args[0] : ".", "README.md"))) {
      boolean isMethod = example.get(0).startsWith("static ");
      for (String line : example) {
        Matcher answered = ANSWERED.matcher(line);
        boolean isAnswered = answered.matches();
        answers += isAnswered ? 1 : 0;
        Check.yes("a call has its answer behind it: " + line, isMethod || isAnswered || !line.contains("//"));
        (isMethod ? methods : statements).append(isAnswered ? checked(answered) : line).append('\n');
      }
    }
    Check.yes("there are examples", answers > 0);
    run("public final class " + NAME + " {\n" + methods
        + "public static void run(java.util.List<String[]> seen) {\n" + statements + "}\n}\n", answers);
    Check.finish();
  }

  private static List<List<String>> examples(Path readme) throws IOException {
    List<List<String>> examples = new ArrayList<>();
    boolean inside = false;
    for (String line : Files.readAllLines(readme)) {
      if (line.startsWith("```")) {
        inside = line.equals("```java");
        if (inside) {
          examples.add(new ArrayList<>());
        }
      } else if (inside) {
        examples.get(examples.size() - 1).add(line);
      }
    }
    return examples;
  }

  /** The call with what it answers and what it should, both as texts. */
  private static String checked(Matcher answered) {
    String call = answered.group(1);
    String answer = answered.group(2).replace("NONE", "-1");
    String seen = "seen.add(new String[] {\"" + call.replace("\"", "\\\"") + "\", \"" + answer + "\", ";
    if (!answer.equals("throws")) {
      return seen + "String.valueOf(" + call + ")});";
    }
    return "try { " + seen + "String.valueOf(" + call + ")}); }"
        + " catch (java.util.NoSuchElementException e) { " + seen + "\"throws\"}); }";
  }

  private static void run(String program, int answers) throws Exception {
    Path folder = Files.createTempDirectory("readme");
    Path file = folder.resolve(NAME + ".java");
    Files.writeString(file, program);
    int failed = ToolProvider.getSystemJavaCompiler().run(null, System.out, System.out, "-d", folder.toString(),
        "-cp", System.getProperty("java.class.path"), file.toString());
    Check.same("the examples compile", failed, 0);
    List<String[]> seen = new ArrayList<>();
    if (failed == 0) {
      try (URLClassLoader loader = new URLClassLoader(new URL[] {folder.toUri().toURL()})) {
        loader.loadClass(NAME).getMethod("run", List.class).invoke(null, seen);
      } catch (InvocationTargetException e) {
        Check.no("the examples threw " + e.getCause(), true);
      }
    }
    for (String[] one : seen) {
      Check.yes(one[0] + " should answer " + one[1] + " and answered " + one[2], one[1].equals(one[2]));
    }
    Check.same("all were run", seen.size(), answers);
    Files.deleteIfExists(folder.resolve(NAME + ".class"));
    Files.deleteIfExists(file);
    Files.deleteIfExists(folder);
  }
}
