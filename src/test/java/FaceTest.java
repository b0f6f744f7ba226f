import java.io.IOException;
import java.lang.reflect.Constructor;
import java.lang.reflect.Field;
import java.lang.reflect.Method;
import java.lang.reflect.Modifier;
import java.nio.charset.StandardCharsets;
import java.nio.file.Files;
import java.nio.file.Paths;
import java.util.ArrayList;
import java.util.Arrays;
import java.util.List;
import java.util.Set;
import java.util.TreeSet;
import java.util.regex.Matcher;
import java.util.regex.Pattern;

/** The public face, and those rules of LANGUAGE.md that can be looked up in the class and its text. */
public final class FaceTest {
  private static final String[] FACE = {
    "person(int,int,int)", "personIs(int,int)", "become(int,int)", "as(int,int)", "shows(int,int)", "seems(int,int)",
    "taken(int,int)", "call(int,int)", "feed(long,int)", "text(int)", "untell(int)", "law(int,int,int,int)",
    "days(int)", "loose(int)", "seed(int)", "nearest(int)", "then(int,int,int)", "settles()", "rank(int)",
    "signs(int,int,int,int)", "heard(int)", "odds(int,int)", "began(int,int,int)", "fits(int)", "voice(int,int,int)",
    "body(int)", "sheet(int,int,int)", "put(int,int,int)", "move(int,int,int,int,int)", "nears(int)", "judge(int)",
    "image()", "restore()", "tell(int)", "check()", "count(int)", "told(int)",
  };

  /** All that is called on a class of the library, or on an object of it, by name. */
  private static final Set<String> LIBRARY = Set.of("System.arraycopy", "Math.max", "Math.min", "Integer.bitCount");
  private static final Set<String> TYPES = Set.of("GoingAbout", "System", "Math", "Integer", "String");

  private static boolean isHidden(int modifiers) {
    return Modifier.isPrivate(modifiers);
  }

  private static String face(Method method) {
    List<String> types = new ArrayList<>();
    for (Class<?> type : method.getParameterTypes()) {
      types.add(type.getName());
    }
    return method.getName() + "(" + String.join(",", types) + ")";
  }

  private static Set<String> publicNames() {
    Set<String> names = new TreeSet<>();
    for (String method : FACE) {
      names.add(method.substring(0, method.indexOf('(')));
    }
    return names;
  }

  private static void lookAtFace() {
    Class<?> x = GoingAbout.class;
    Due.due("public and final", x.getModifiers(), Modifier.PUBLIC | Modifier.FINAL);
    Constructor<?>[] made = x.getDeclaredConstructors();
    Due.due("constructors", made.length, 1);
    Due.due("constructor's arguments", made[0].getParameterCount(), 0);
    Due.due("public constructor", made[0].getModifiers(), Modifier.PUBLIC);
    TreeSet<String> due = new TreeSet<>(Arrays.asList(FACE));
    Set<String> names = publicNames();
    for (Method method : x.getDeclaredMethods()) {
      if (isHidden(method.getModifiers())) {
        Due.due("private " + method.getName() + " bears a public name", names.contains(method.getName()) ? 1 : 0, 0);
      } else {
        Due.due(face(method) + " is in the document", due.remove(face(method)) ? 1 : 0, 1);
        Due.due(face(method) + " is public", method.getModifiers(), Modifier.PUBLIC);
        Due.due(face(method) + " answers an int", method.getReturnType() == int.class ? 1 : 0, 1);
      }
    }
    Due.due("missing: " + due, due.size(), 0);
    for (Field field : x.getDeclaredFields()) {
      Due.due(field.getName() + " is private", isHidden(field.getModifiers()) ? 1 : 0, 1);
    }
  }

  private static void lookInside(Class<?> in) {
    int own = 0;
    for (Field field : in.getDeclaredFields()) {
      if (Modifier.isStatic(field.getModifiers())) {
        Due.due("static " + field.getName() + " is final", Modifier.isFinal(field.getModifiers()) ? 1 : 0, 1);
      } else {
        own++;
      }
    }
    Due.due(in.getName() + " has some twenty fields at most: " + own, own <= 20 ? 1 : 0, 1);
    for (Method method : in.getDeclaredMethods()) {
      Due.due(method.getName() + " takes seven at most", method.getParameterCount() <= 7 ? 1 : 0, 1);
    }
    Due.due("some twelve classes at most", in.getDeclaredClasses().length <= 11 ? 1 : 0, 1);
    for (Class<?> inner : in.getDeclaredClasses()) {
      Due.due(inner.getName() + " is static", Modifier.isStatic(inner.getModifiers()) ? 1 : 0, 1);
      Due.due(inner.getName() + " is not public", Modifier.isPublic(inner.getModifiers()) ? 1 : 0, 0);
      for (Method method : inner.getDeclaredMethods()) {
        String name = inner.getName() + "." + method.getName();
        Due.due(name + " bears a public name", publicNames().contains(method.getName()) ? 1 : 0, 0);
        Due.due(name + " is private", isHidden(method.getModifiers()) ? 1 : 0, 1);
      }
      lookInside(inner);
    }
  }

  /** Names with a capital and a small letter are classes: the program's own, or what it may use. */
  private static void lookAtNames(String code) {
    Set<String> known = new TreeSet<>(TYPES);
    for (Class<?> inner : GoingAbout.class.getDeclaredClasses()) {
      known.add(inner.getSimpleName());
    }
    Matcher named = Pattern.compile("\\b[A-Z]\\w*[a-z]\\w*\\b").matcher(code);
    while (named.find()) {
      Due.due("a class in the text: " + named.group(), known.contains(named.group()) ? 1 : 0, 1);
    }
    Matcher used = Pattern.compile("\\b(System|Math|Integer)\\s*\\.\\s*\\w+").matcher(code);
    while (used.find()) {
      Due.due("of the library: " + used.group(), LIBRARY.contains(used.group()) ? 1 : 0, 1);
    }
  }

  private static void lookAtText() throws IOException {
    String text = new String(Files.readAllBytes(Paths.get("src/main/java/GoingAbout.java")), StandardCharsets.ISO_8859_1);
    for (int i = 0; i < text.length(); i++) {
      if (text.charAt(i) > 126 || text.charAt(i) < 32 && text.charAt(i) != '\n') {
        Due.due("byte " + i, text.charAt(i), 32);
      }
    }
    String code = text.replaceAll("(?s)/\\*.*?\\*/", " ").replaceAll("//[^\n]*", " ");
    Matcher barred = Pattern.compile("\\b(throw|throws|try|catch|finally|synchronized|assert|import|package|native|volatile"
        + "|protected|instanceof|System\\.(?!arraycopy)\\w+|Math\\.\\w+Exact|equals|hashCode|toString)\\b|->|::|\\?\\s*>")
        .matcher(code);
    while (barred.find()) {
      Due.due("barred in the text: " + barred.group(), 1, 0);
    }
    lookAtNames(code);
    int lines = 0;
    for (String line : text.split("\n")) {
      lines = line.matches("  (  )?\\S.*\\) \\{") ? 0 : lines + 1;
      if (line.matches("  (  )?\\}")) {
        Due.due("a method's lines", lines <= 60 || line.length() == 3 ? 1 : 0, 1);
      }
    }
  }

  public static void main(String[] args) throws IOException {
    lookAtFace();
    lookInside(GoingAbout.class);
    lookAtText();
    Due.finish();
  }
}
