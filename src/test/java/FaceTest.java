import java.lang.reflect.Field;
import java.lang.reflect.Method;
import java.lang.reflect.Modifier;
import java.nio.file.Files;
import java.nio.file.Path;
import java.util.Arrays;
import java.util.Set;
import java.util.TreeSet;
import java.util.regex.Matcher;
import java.util.regex.Pattern;
import java.util.stream.Collectors;

/** The class has the document's face and no more, and its file keeps to what LANGUAGE.md leaves. */
public final class FaceTest {
  private static final String[] FACE = {
    "int person(int, int, int)", "int line(int, int)", "boolean seed(int)", "int feed(int, int, int, int, int)", "int end(int)",
    "int text()", "int fault(int)", "boolean by(int)", "boolean seat(int, int)", "boolean hire(int, boolean)", "int night()",
    "int played(int)", "int undo()", "int of(int, int)", "int wave(int, int)", "int all(int)", "int caused(int)",
    "int fair(int, int)", "int quietest(int)", "int cut(int)", "int stilled(int)", "int seen(int)", "int who(int)", "int image()",
    "int back()", "int about(int)"};
  private static final String[] FORBIDDEN = {
    "throw", "throws", "try", "catch", "synchronized", "assert", "yield", "record", "double", "float", "Object", "HashMap",
    "Random", "System.out", "System.currentTimeMillis", "System.nanoTime", "Thread", "->", "::", "Exact"};

  private FaceTest() {
  }

  public static void main(String[] args) throws Exception {
    face();
    members();
    file(Files.readString(Path.of("src/main/java/SilentHouse.java")));
    Due.end();
  }

  private static void face() {
    Due.be("public and final", SilentHouse.class.getModifiers(), Modifier.PUBLIC | Modifier.FINAL);
    Due.be("constructors", SilentHouse.class.getDeclaredConstructors().length, 1);
    Due.be("public constructors", SilentHouse.class.getConstructors().length, 1);
    Set<String> due = new TreeSet<>(Arrays.asList(FACE));
    Set<String> open = new TreeSet<>();
    Set<String> closed = new TreeSet<>();
    for (Method method : SilentHouse.class.getDeclaredMethods()) {
      String parameters = Arrays.stream(method.getParameterTypes()).map(Class::getName).collect(Collectors.joining(", "));
      if (Modifier.isPrivate(method.getModifiers())) {
        closed.add(method.getName());
      } else {
        open.add(method.getReturnType() + " " + method.getName() + "(" + parameters + ")");
      }
    }
    Due.be("methods that are open: " + open, open.equals(due), true);
    for (String method : open) {
      String name = method.replaceAll("^\\w+ (\\w+)\\(.*$", "$1");
      Due.be("a private method with a public name: " + name, closed.contains(name), false);
    }
  }

  private static void members() {
    for (Field field : SilentHouse.class.getDeclaredFields()) {
      boolean constant = field.getName().equals("NONE");
      Due.be("field " + field.getName() + " is private", Modifier.isPrivate(field.getModifiers()), !constant);
    }
    Class<?>[] inside = SilentHouse.class.getDeclaredClasses();
    Due.be("some twelve classes at most", inside.length < 12, true);
    for (Class<?> one : inside) {
      Due.be(one.getName() + " is static", Modifier.isStatic(one.getModifiers()), true);
      long fields = Arrays.stream(one.getDeclaredFields()).filter(f -> !Modifier.isStatic(f.getModifiers())).count();
      Due.be(one.getName() + " has some twenty fields at most", fields <= 20, true);
      for (Field field : one.getDeclaredFields()) {
        boolean fixed = !Modifier.isStatic(field.getModifiers()) || Modifier.isFinal(field.getModifiers());
        Due.be(one.getName() + "." + field.getName() + " is no static state", fixed, true);
      }
    }
  }

  private static void file(String source) {
    String code = source.replaceAll("(?s)/\\*.*?\\*/", "").replaceAll("//[^\n]*", "").replaceAll("\"[^\"\n]*\"", "\"\"");
    for (String word : FORBIDDEN) {
      boolean isWord = Character.isLetter(word.charAt(0)) && !word.equals("Exact");
      Matcher matcher = Pattern.compile(isWord ? "\\b" + Pattern.quote(word) + "\\b" : Pattern.quote(word)).matcher(code);
      Due.be("there is '" + word + "' in the file", matcher.find(), false);
    }
    Due.be("signs of the file are 1 to 127", source.chars().allMatch(c -> c >= 1 && c <= 127), true);
    Set<String> imports = new TreeSet<>();
    Matcher matcher = Pattern.compile("(?m)^import (.*);$").matcher(source);
    while (matcher.find()) {
      imports.add(matcher.group(1));
    }
    Due.be("imports: " + imports, imports.equals(Set.of("java.util.Arrays")), true);
  }
}
