import java.io.IOException;
import java.lang.reflect.Constructor;
import java.lang.reflect.Field;
import java.lang.reflect.Method;
import java.lang.reflect.Modifier;
import java.nio.charset.StandardCharsets;
import java.nio.file.Files;
import java.nio.file.Path;
import java.util.HashSet;
import java.util.Set;
import java.util.TreeSet;
import java.util.regex.Matcher;
import java.util.regex.Pattern;

/** The face of the class, and the rules of LANGUAGE.md that a test can see. */
public final class LanguageTest {
  private static final String[] FACE = {"int rain(int,int,int)", "int set(int,int)", "int now(int)", "int led(int)",
      "int thing(int,int)", "int shows()", "int fisher(int,int)", "int ofFisher(int,int)", "int change(int,int,int)",
      "int become(int,int)", "int as(int,int)", "int bids(int,int,int)", "int sell()", "int feed(long,int)",
      "int text(int)", "int law(int,int,int,int)", "int hours(int)", "int loose(int)", "int then(int,int)",
      "int thenFisher(int,int,int)", "int falls(int)", "int book(int,int)", "long odds(int,int)",
      "int gateFor(int,int,int)", "int shown(int,int)", "int seed(int)", "int voice(int,int,int)", "int trace(int)",
      "int sheet(int,int,int)", "int put(int,int,int)", "int move(int,int,int,int,int)", "int rains(int,int)",
      "int judge(int)", "int image()", "int restore()", "int tell(int)", "int check()", "int count(int)",
      "int told(int)"};
  private static final String[] FORBIDDEN = {"throw", "throws", "try", "catch", "synchronized", "assert", "equals",
      "hashCode", "toString", "Exact", "package", "protected", "record", "Object", "Thread", "System\\.(?!arraycopy)",
      "Math\\.(?!max|min|abs|floorMod|floorDiv)", "Arrays\\.(?!fill|copyOf|copyOfRange)", "->", "::", "NaN", "@",
      "float", "double", "new \\w+\\s*\\([^)]*\\)\\s*\\{"};

  private LanguageTest() {
  }

  public static void main(String[] args) throws IOException {
    String source = Files.readString(Path.of(args[0]), StandardCharsets.ISO_8859_1);
    face();
    classes();
    words(bare(source));
    imports(source);
    methodsAreShort(bare(source));
    Due.end();
  }

  private static void face() {
    Class<?> bell = DrownedBell.class;
    Due.yes("public", Modifier.isPublic(bell.getModifiers()));
    Due.yes("final", Modifier.isFinal(bell.getModifiers()));
    Set<String> due = new TreeSet<>(Set.of(FACE));
    Set<String> names = new HashSet<>();
    for (Method m : bell.getDeclaredMethods()) {
      if (Modifier.isPrivate(m.getModifiers()) || m.isSynthetic()) {
        continue;
      }
      Due.yes("in the face: " + m, due.remove(signature(m)));
      Due.yes("public: " + m, Modifier.isPublic(m.getModifiers()) && !Modifier.isStatic(m.getModifiers()));
      names.add(m.getName());
    }
    Due.yes("missing in the face: " + due, due.isEmpty());
    for (Method m : bell.getDeclaredMethods()) {
      Due.yes("a private one with a public name: " + m,
          !Modifier.isPrivate(m.getModifiers()) || !names.contains(m.getName()));
    }
    Constructor<?>[] constructors = bell.getDeclaredConstructors();
    Due.is("constructors", constructors.length, 1);
    Due.yes("constructor", Modifier.isPublic(constructors[0].getModifiers())
        && constructors[0].getParameterCount() == 0);
    for (Field f : bell.getDeclaredFields()) {
      Due.yes("private: " + f, Modifier.isPrivate(f.getModifiers()));
    }
  }

  private static String signature(Method m) {
    StringBuilder s = new StringBuilder(m.getReturnType().getName()).append(' ').append(m.getName()).append('(');
    for (Class<?> p : m.getParameterTypes()) {
      s.append(s.charAt(s.length() - 1) == '(' ? "" : ",").append(p.getName());
    }
    return s.append(')').toString();
  }

  private static void classes() {
    Class<?>[] inside = DrownedBell.class.getDeclaredClasses();
    Due.yes("some twelve classes", inside.length + 1 <= 12);
    fields(DrownedBell.class);
    for (Class<?> c : inside) {
      Due.yes("static: " + c, Modifier.isStatic(c.getModifiers()) || c.isInterface());
      Due.yes("not public: " + c, !Modifier.isPublic(c.getModifiers()) && !Modifier.isProtected(c.getModifiers()));
      fields(c);
    }
  }

  private static void fields(Class<?> c) {
    int own = 0;
    for (Field f : c.getDeclaredFields()) {
      boolean isStatic = Modifier.isStatic(f.getModifiers());
      own += isStatic ? 0 : 1;
      Due.yes("a static one is final: " + f, !isStatic || Modifier.isFinal(f.getModifiers()));
    }
    Due.yes("some twenty fields: " + c, own <= 20);
    for (Method m : c.getDeclaredMethods()) {
      Due.yes("seven parameters: " + m, m.getParameterCount() <= 7);
    }
  }

  /** Without comments, texts and signs. */
  private static String bare(String source) {
    return source.replaceAll("(?s)/\\*.*?\\*/", "").replaceAll("//[^\n]*", "")
        .replaceAll("\"[^\"\n]*\"", "\"\"").replaceAll("'[^'\n]'", "' '");
  }

  private static void words(String bare) {
    for (String word : FORBIDDEN) {
      boolean letters = word.matches("\\w+");
      Matcher m = Pattern.compile(letters && !word.equals("Exact") ? "\\b" + word + "\\b" : word).matcher(bare);
      boolean found = m.find();
      Due.yes("no " + word + (found ? ": " + m.group() : ""), !found);
    }
    for (int i = 0; i < bare.length(); i++) {
      char c = bare.charAt(i);
      Due.yes("sign " + (int) c + " at " + i, c < 127 && (c >= 32 || c == '\n'));
    }
  }

  private static void imports(String source) {
    Matcher m = Pattern.compile("(?m)^import (.*);").matcher(source);
    while (m.find()) {
      Due.yes("import " + m.group(1), Set.of("java.util.Arrays", "java.util.ArrayList", "java.util.List",
          "java.util.Iterator").contains(m.group(1)));
    }
  }

  private static void methodsAreShort(String bare) {
    String[] lines = bare.split("\n", -1);
    int start = -1;
    for (int i = 0; i < lines.length; i++) {
      boolean opens = lines[i].matches("( {2}| {4})[\\w\\[\\] ]+\\([^;]*\\{");
      boolean closes = lines[i].matches("( {2}| {4})}") && start >= 0
          && lines[i].indexOf('}') == lines[start].length() - lines[start].stripLeading().length();
      if (opens && start < 0) {
        start = i;
      } else if (closes) {
        Due.yes("some sixty lines, not " + (i - start + 1) + ": " + lines[start].strip(), i - start + 1 <= 60);
        start = -1;
      }
    }
    Due.is("the last method is closed", start, -1);
  }
}
