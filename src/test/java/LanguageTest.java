import java.io.IOException;
import java.lang.reflect.Constructor;
import java.lang.reflect.Field;
import java.lang.reflect.Method;
import java.lang.reflect.Modifier;
import java.nio.charset.StandardCharsets;
import java.nio.file.Files;
import java.nio.file.Path;
import java.util.HashSet;
import java.util.Set;
import java.util.TreeSet;
import java.util.regex.Matcher;
import java.util.regex.Pattern;

/** The face of the class, and the rules of LANGUAGE.md that a test can see. */
public final class LanguageTest {
  private static final String[] FACE = {"int rain(int,int,int)", "int set(int,int)", "int now(int)", "int led(int)",
      "int thing(int,int)", "int shows()", "int fisher(int,int)", "int ofFisher(int,int)", "int change(int,int,int)",
      "int become(int,int)", "int as(int,int)", "int bids(int,int,int)", "int sell()", "int feed(long,int)",
      "int text(int)", "int law(int,int,int,int)", "int hours(int)", "int loose(int)", "int then(int,int)",
      "int thenFisher(int,int,int)", "int falls(int)", "int book(int,int)", "long odds(int,int)",
      "int gateFor(int,int,int)", "int shown(int,int)", "int seed(int)", "int voice(int,int,int)", "int trace(int)",
      "int sheet(int,int,int)", "int put(int,int,int)", "int move(int,int,int,int,int)", "int rains(int,int)",
      "int judge(int)", "int image()", "int restore()", "int tell(int)", "int check()", "int count(int)",
      "int told(int)"};
  /** The number of a rule, and what a source that keeps to it doesn't hold. */
  private static final String[][] FORBIDDEN = {
      {"1", "^\\s*package\\b"},
      {"2", "::"},
      {"2", "\\bnew \\w+\\s*\\([^)]*\\)\\s*\\{"},
      {"3", "\\bNaN\\b"},
      {"4", "\\bSystem\\s*\\.\\s*(?!arraycopy\\b)"},
      {"4", "\\bMath\\s*\\.\\s*(?!(max|min|abs|floorMod|floorDiv|multiplyHigh|multiplyFull)\\b)"},
      {"4", "\\bArrays\\s*\\.\\s*(?!(fill|copyOf|copyOfRange)\\b)"},
      {"4", "\\w+Exact\\b"},
      {"4", "\\bjava\\.(?!util\\.)"},
      {"5", "\\bstatic\\s*\\{"},
      {"6", "\\b(throw|throws|try|catch|synchronized|assert)\\b"},
      {"6", "\\bboolean equals\\s*\\("},
      {"6", "\\bString toString\\s*\\("},
      {"6", "\\bhashCode\\b"},
      {"10", "\"\"\\s*\\+|\\+=?\\s*\"\""}};
  private static final Set<String> LIBRARY = Set.of("String", "StringBuilder", "Integer", "Long", "Math", "System",
      "Arrays", "ArrayList", "List", "Iterator", "Iterable", "Comparable", "Override");
  private static final Set<String> CONSTANTS = Set.of("int", "long", "boolean", "char", "java.lang.String", "[I", "[J",
      "[C", "[B");

  private LanguageTest() {
  }

  public static void main(String[] args) throws IOException {
    String source = Files.readString(Path.of(args[0]), StandardCharsets.ISO_8859_1);
    face();
    classes();
    words(bare(source));
    arrows(bare(source));
    types(bare(source));
    imports(source);
    methodsAreShort(bare(source));
    Due.end();
  }

  private static void face() {
    Class<?> bell = DrownedBell.class;
    Due.yes("public", Modifier.isPublic(bell.getModifiers()));
    Due.yes("final", Modifier.isFinal(bell.getModifiers()));
    Set<String> due = new TreeSet<>(Set.of(FACE));
    Set<String> names = new HashSet<>();
    for (Method m : bell.getDeclaredMethods()) {
      if (Modifier.isPrivate(m.getModifiers()) || m.isSynthetic()) {
        continue;
      }
      Due.yes("in the face: " + m, due.remove(signature(m)));
      Due.yes("public: " + m, Modifier.isPublic(m.getModifiers()) && !Modifier.isStatic(m.getModifiers()));
      names.add(m.getName());
    }
    Due.yes("missing in the face: " + due, due.isEmpty());
    privateNames(bell, names);
    for (Class<?> inside : bell.getDeclaredClasses()) {
      privateNames(inside, names);
    }
    Constructor<?>[] constructors = bell.getDeclaredConstructors();
    Due.is("constructors", constructors.length, 1);
    Due.yes("constructor", Modifier.isPublic(constructors[0].getModifiers())
        && constructors[0].getParameterCount() == 0);
    for (Field f : bell.getDeclaredFields()) {
      Due.yes("private: " + f, Modifier.isPrivate(f.getModifiers()));
    }
  }

  private static void privateNames(Class<?> c, Set<String> publicNames) {
    for (Method m : c.getDeclaredMethods()) {
      Due.yes("rule 1: a private one with a public name: " + m,
          !Modifier.isPrivate(m.getModifiers()) || !publicNames.contains(m.getName()));
    }
  }

  private static String signature(Method m) {
    StringBuilder s = new StringBuilder(m.getReturnType().getName()).append(' ').append(m.getName()).append('(');
    for (Class<?> p : m.getParameterTypes()) {
      s.append(s.charAt(s.length() - 1) == '(' ? "" : ",").append(p.getName());
    }
    return s.append(')').toString();
  }

  private static void classes() {
    Class<?>[] inside = DrownedBell.class.getDeclaredClasses();
    Due.yes("some twelve classes", inside.length + 1 <= 12);
    fields(DrownedBell.class);
    for (Class<?> c : inside) {
      Due.yes("static: " + c, Modifier.isStatic(c.getModifiers()) || c.isInterface());
      Due.yes("not public: " + c, !Modifier.isPublic(c.getModifiers()) && !Modifier.isProtected(c.getModifiers()));
      fields(c);
    }
  }

  private static void fields(Class<?> c) {
    int own = 0;
    for (Field f : c.getDeclaredFields()) {
      boolean isStatic = Modifier.isStatic(f.getModifiers());
      own += isStatic ? 0 : 1;
      Due.yes("rule 5: a static one is final: " + f, !isStatic || Modifier.isFinal(f.getModifiers()));
      Due.yes("rule 5: a static one is a constant: " + f, !isStatic || isConstant(f.getType()));
    }
    Due.yes("some twenty fields: " + c, own <= 20);
    for (Method m : c.getDeclaredMethods()) {
      Due.yes("seven parameters: " + m, m.getParameterCount() <= 7);
    }
  }

  /** An enum's own constants, and the row of them, too. */
  private static boolean isConstant(Class<?> type) {
    return CONSTANTS.contains(type.getName()) || type.isEnum() || type.isArray() && type.getComponentType().isEnum();
  }

  /** Without comments, texts and signs. */
  private static String bare(String source) {
    return source.replaceAll("(?s)/\\*.*?\\*/", "").replaceAll("//[^\n]*", "")
        .replaceAll("\"(\\\\.|[^\"\\\\\n])*\"", "\"\"").replaceAll("'(\\\\[^\n]+?|[^'\\\\\n])'", "' '");
  }

  private static void words(String bare) {
    for (String[] rule : FORBIDDEN) {
      Matcher m = Pattern.compile(rule[1], Pattern.MULTILINE).matcher(bare);
      boolean found = m.find();
      Due.yes("rule " + rule[0] + ", no " + rule[1] + (found ? ": " + m.group() : ""), !found);
    }
    for (int i = 0; i < bare.length(); i++) {
      char c = bare.charAt(i);
      Due.yes("sign " + (int) c + " at " + i, c < 127 && (c >= 32 || c == '\n'));
    }
  }

  /** Behind a case an arrow is a switch's, elsewhere a lambda's. */
  private static void arrows(String bare) {
    for (String line : bare.split("\n")) {
      Due.yes("rule 2, no lambda: " + line.strip(), !line.contains("->") || line.matches("\\s*(case .*|default\\s*)->.*"));
    }
  }

  /** Types are told from constants by their small letters. */
  private static void types(String bare) {
    Set<String> own = new HashSet<>();
    Matcher declared = Pattern.compile("\\b(?:class|interface|enum|record)\\s+(\\w+)").matcher(bare);
    while (declared.find()) {
      own.add(declared.group(1));
    }
    Matcher used = Pattern.compile("\\b[A-Z]\\w*[a-z]\\w*\\b").matcher(bare);
    while (used.find()) {
      Due.yes("rule 4: " + used.group(), own.contains(used.group()) || LIBRARY.contains(used.group()));
    }
  }

  private static void imports(String source) {
    Matcher m = Pattern.compile("(?m)^import (.*);").matcher(source);
    while (m.find()) {
      Due.yes("import " + m.group(1), Set.of("java.util.Arrays", "java.util.ArrayList", "java.util.List",
          "java.util.Iterator").contains(m.group(1)));
    }
  }

  private static void methodsAreShort(String bare) {
    String[] lines = bare.split("\n", -1);
    int start = -1;
    for (int i = 0; i < lines.length; i++) {
      boolean opens = lines[i].matches("( {2}| {4})[\\w\\[\\] ]+\\([^;]*\\{");
      boolean closes = lines[i].matches("( {2}| {4})}") && start >= 0
          && lines[i].indexOf('}') == lines[start].length() - lines[start].stripLeading().length();
      if (opens && start < 0) {
        start = i;
      } else if (closes) {
        Due.yes("some sixty lines, not " + (i - start + 1) + ": " + lines[start].strip(), i - start + 1 <= 60);
        start = -1;
      }
    }
    Due.is("the last method is closed", start, -1);
  }
}
