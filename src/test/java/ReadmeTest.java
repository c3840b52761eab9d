import java.lang.reflect.Field;
import java.lang.reflect.Method;
import java.lang.reflect.Modifier;
import java.nio.file.DirectoryStream;
import java.nio.file.Files;
import java.nio.file.Path;
import java.util.HashMap;
import java.util.Map;
import java.util.regex.Matcher;
import java.util.regex.Pattern;

/** README.md: the calls in it answer as it says, and it names every call, constant and test. */
public final class ReadmeTest {
  private static final Pattern CALL = Pattern.compile("(?:int (\\w+) = )?hall\\.(\\w+)\\(([^)]*)\\);\\s+// (-?\\w+)(?:: .*)?");
  private static final Pattern TABLE_CALL = Pattern.compile("`(\\w+)\\(([a-z, ]*)\\)`");
  private static final Map<String, Integer> names = new HashMap<>();
  private static int wrong = 0;
  private static int calls = 0;

  private static void fault(String what) {
    wrong++;
    System.out.println("README.md: " + what);
  }

  private static int valueOf(String word) {
    Integer known = names.get(word);
    return known != null ? known : Integer.parseInt(word);
  }

  private static Method methodOf(String name) {
    for (Method m : PairingHall.class.getDeclaredMethods()) {
      if (Modifier.isPublic(m.getModifiers()) && m.getName().equals(name)) return m;
    }
    return null;
  }

  private static void call(PairingHall hall, String line, Matcher parts) throws Exception {
    Method method = methodOf(parts.group(2));
    String[] words = parts.group(3).isEmpty() ? new String[0] : parts.group(3).split(", ");
    if (method == null || method.getParameterCount() != words.length) {
      fault("no such call: " + line);
      return;
    }
    Object[] arguments = new Object[words.length];
    for (int i = 0; i < words.length; i++) arguments[i] = valueOf(words[i]);
    int answer = (Integer) method.invoke(hall, arguments);
    if (answer != valueOf(parts.group(4))) fault(line + " answered " + answer);
    if (parts.group(1) != null) names.put(parts.group(1), answer);
    calls++;
  }

  private static void examples(String[] lines) throws Exception {
    PairingHall hall = new PairingHall();
    boolean isCode = false;
    for (String line : lines) {
      if (line.startsWith("```")) {
        isCode = line.equals("```java");
      } else if (isCode && !line.equals("PairingHall hall = new PairingHall();")) {
        Matcher parts = CALL.matcher(line);
        if (parts.matches()) call(hall, line, parts);
        else fault("not a call with its answer: " + line);
      }
    }
    if (calls < 50) fault("only " + calls + " calls were made");
  }

  private static void constants(String text) throws Exception {
    for (Field f : PairingHall.class.getFields()) {
      names.put(f.getName(), f.getInt(null));
      if (!text.contains("| `" + f.getName() + "` | " + f.getInt(null) + " |")) fault("constant " + f.getName() + " is not told");
    }
  }

  /** Each call of the face stands in the table, with as many arguments as it takes. */
  private static void face(String[] lines) {
    Map<String, Integer> told = new HashMap<>();
    for (String line : lines) {
      if (!line.startsWith("| `")) continue;
      Matcher m = TABLE_CALL.matcher(line.substring(0, line.indexOf(" | ", 2)));
      while (m.find()) told.put(m.group(1), m.group(2).isEmpty() ? 0 : m.group(2).split(", ").length);
    }
    for (Method m : PairingHall.class.getDeclaredMethods()) {
      if (!Modifier.isPublic(m.getModifiers())) continue;
      Integer count = told.remove(m.getName());
      if (count == null || count != m.getParameterCount()) fault(m.getName() + " is not told as it is");
    }
    for (String name : told.keySet()) fault("there is no " + name + "()");
  }

  private static void tests(String text) throws Exception {
    try (DirectoryStream<Path> files = Files.newDirectoryStream(Path.of("src/test/java"), "*Test.java")) {
      for (Path file : files) {
        String name = file.getFileName().toString().replace(".java", "");
        if (!text.contains("- `" + name + "`: ")) fault("test " + name + " is not told");
      }
    }
  }

  public static void main(String[] args) throws Exception {
    String text = Files.readString(Path.of("README.md"));
    String[] lines = text.split("\n");
    constants(text);
    examples(lines);
    face(lines);
    tests(text);
    System.out.println(wrong == 0 ? "README.md holds, with its " + calls + " calls" : wrong + " faults of README.md");
    if (wrong != 0) System.exit(1);
  }
}
