import java.lang.reflect.Field;
import java.lang.reflect.Method;
import java.lang.reflect.Modifier;
import java.nio.charset.StandardCharsets;
import java.nio.file.Files;
import java.nio.file.Path;
import java.util.HashSet;
import java.util.List;
import java.util.Set;
import java.util.regex.Matcher;
import java.util.regex.Pattern;

/** What of LANGUAGE.md can be seen from the text and the classes of the program. */
public final class LanguageTest {
  private static int wrong = 0;

  private static void fault(int rule, String what) {
    wrong++;
    System.out.println("rule " + rule + ": " + what);
  }

  private static void face() {
    Set<String> open = new HashSet<>();
    for (Method m : PairingHall.class.getDeclaredMethods()) {
      if (Modifier.isPublic(m.getModifiers())) open.add(m.getName());
      else if (!Modifier.isPrivate(m.getModifiers())) fault(1, m + " is not private");
    }
    for (Method m : PairingHall.class.getDeclaredMethods()) {
      if (!Modifier.isPublic(m.getModifiers()) && open.contains(m.getName())) fault(1, m + " bears a public name");
    }
    for (Class<?> c : PairingHall.class.getDeclaredClasses()) {
      if (!Modifier.isStatic(c.getModifiers())) fault(2, c + " is not static");
      for (Method m : c.getDeclaredMethods()) if (open.contains(m.getName())) fault(1, m + " bears a public name");
      sizes(c);
    }
    sizes(PairingHall.class);
    if (PairingHall.class.getDeclaredClasses().length > 12) fault(11, "too many classes");
  }

  private static void sizes(Class<?> c) {
    int fields = 0;
    for (Field f : c.getDeclaredFields()) {
      if (!Modifier.isStatic(f.getModifiers())) fields++;
      else if (!Modifier.isFinal(f.getModifiers())) fault(5, f + " is not final");
    }
    if (fields > 20) fault(11, c + " has " + fields + " fields");
    for (Method m : c.getDeclaredMethods()) if (m.getParameterCount() > 7) fault(11, m + " takes too many");
  }

  private static void words(String code) {
    String[] banned = {"throw", "throws", "try", "catch", "synchronized", "assert", "equals", "hashCode", "toString", "lambda", "System\\.(?!arraycopy)",
        "Exact\\b", "->", "::", "protected", "Thread", "Random", "static \\{", "package "};
    for (String word : banned) {
      Matcher m = Pattern.compile(Character.isLetter(word.charAt(0)) ? "\\b" + word : word).matcher(code);
      if (m.find()) fault(6, "'" + word + "' stands in the program");
    }
    Matcher imports = Pattern.compile("import ([^;]+);").matcher(code);
    while (imports.find()) if (!List.of("java.util.Arrays").contains(imports.group(1))) fault(4, "import of " + imports.group(1));
    if (!StandardCharsets.US_ASCII.newEncoder().canEncode(code)) fault(3, "a character is beyond ASCII");
  }

  /** Rows are made with the object: each 'new' stands in a field, or in the constructor of the hall. */
  private static void newObjects(String[] lines) {
    for (String line : lines) {
      boolean isField = line.matches("\\s*(private )?final .* = new .*;");
      boolean isConstructor = line.matches("\\s*(t|savedT)ournaments\\[t\\] = new Tournament\\(\\);");
      if (line.contains("new ") && !isField && !isConstructor) fault(12, "an object is made by a call: " + line.trim());
    }
  }

  private static void lengths(String[] lines) {
    int begin = -1, indent = 0;
    for (int i = 0; i < lines.length; i++) {
      Matcher head = Pattern.compile("^( {4}| {8})(?!.*\\bclass\\b)\\S.*\\) \\{$").matcher(lines[i]);
      if (begin < 0 && head.find()) {
        begin = i;
        indent = head.group(1).length();
      } else if (begin >= 0 && lines[i].equals(" ".repeat(indent) + "}")) {
        if (i - begin > 60) fault(11, "a method of " + (i - begin) + " lines: " + lines[begin].trim());
        begin = -1;
      }
    }
  }

  public static void main(String[] args) throws Exception {
    String text = Files.readString(Path.of("src/main/java/PairingHall.java"));
    String code = text.replaceAll("(?s)/\\*.*?\\*/", "").replaceAll("//[^\n]*", "");
    face();
    words(code);
    newObjects(code.split("\n"));
    lengths(code.split("\n"));
    System.out.println(wrong == 0 ? "the language is kept" : wrong + " faults of the language");
    if (wrong != 0) System.exit(1);
  }
}
