import java.io.IOException;
import java.lang.reflect.Method;
import java.nio.charset.StandardCharsets;
import java.nio.file.Files;
import java.nio.file.Paths;
import java.util.HashMap;
import java.util.Map;
import java.util.regex.Matcher;
import java.util.regex.Pattern;

/** The calls that README.md shows, one after the other, answer what it says behind them. */
public final class ReadmeTest {
  private static final Pattern CALL = Pattern.compile("suburb\\.(\\w+)\\((.*)\\);\\s*// (-?\\d+)(:.*)?");

  private static Map<String, Method> face() {
    Map<String, Method> face = new HashMap<>();
    for (Method method : GoingAbout.class.getMethods()) {
      face.put(method.getName(), method);
    }
    return face;
  }

  private static Object[] arguments(Method method, String told) {
    Class<?>[] types = method.getParameterTypes();
    String[] each = told.isEmpty() ? new String[0] : told.split(", ");
    Due.due(method.getName() + "(" + told + "): arguments", each.length, types.length);
    Object[] arguments = new Object[each.length];
    for (int i = 0; i < each.length; i++) {
      long value = Long.decode(each[i].replace("L", ""));
      arguments[i] = i < types.length && types[i] == long.class ? (Object) value : (Object) (int) value;
    }
    return arguments;
  }

  public static void main(String[] args) throws IOException, ReflectiveOperationException {
    Map<String, Method> face = face();
    GoingAbout suburb = new GoingAbout();
    int calls = 0;
    for (String line : new String(Files.readAllBytes(Paths.get("README.md")), StandardCharsets.UTF_8).split("\n")) {
      Matcher call = CALL.matcher(line);
      if (call.matches()) {
        Method method = face.get(call.group(1));
        Due.due(line + ": is of the face", method == null ? 0 : 1, 1);
        Due.due(line, (int) method.invoke(suburb, arguments(method, call.group(2))), Long.parseLong(call.group(3)));
        calls++;
      } else {
        Due.due(line + ": a call without its answer", line.startsWith("suburb.") ? 1 : 0, 0);
      }
    }
    Due.due("calls shown: " + calls + ", some", calls > 30 ? 1 : 0, 1);
    Due.finish();
  }
}
