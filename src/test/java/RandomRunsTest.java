import java.lang.reflect.Method;
import java.util.ArrayList;
import java.util.Arrays;
import java.util.HashMap;
import java.util.List;
import java.util.Map;
import java.util.Random;

/** Runs of calls drawn at random (from fixed seeds), answered by the program and by Plain. */
public final class RandomRunsTest {
  private static final int[] EDGES = {-2, -1, 0, 1, 2, 3, 4, 5, 7, 8, 9, 10, 20, 21, 23, 24, 25, 30, 31, 60, 61, 69, 70,
    99, 100, 101, 9999, 10000, Integer.MAX_VALUE, Integer.MAX_VALUE - 1, Integer.MIN_VALUE, Integer.MIN_VALUE + 1};

  /** A letter an argument: p person, K km, k kind, N near, S sign, u use, h sheet, ? any, ... */
  private static final String[] CALLS = {
    "person KNS 4", "personIs pw 4", "become pK 2", "as pk 3", "shows pS 4", "seems pN 4", "taken pp 4", "call pp 3",
    "feed Lf 2", "text u 1", "untell u 1", "law u??? 2", "days d 2", "loose l 2", "seed ? 1",
    "nearest e 2", "then pev 3", "settles  1", "rank p 2", "signs pSqv 2", "heard p 2", "odds pv 3", "began htv 1",
    "fits h 2", "voice pV? 3", "body b 3", "sheet hBn 2", "put hiY 4", "move hjhjj 3", "nears h 2", "judge h 2",
    "image  1", "restore  1", "tell N 3", "check  1", "count c 3", "told o 2",
  };

  private final Random random;
  /** One argument of so many is taken from the edges, whether the act can be done with it or not. */
  private final int usual;
  private final GoingAbout x = new GoingAbout();
  private final Plain plain = new Plain();
  private final List<String> said = new ArrayList<>();
  private int people = 0;

  private RandomRunsTest(long seed, int usual) {
    random = new Random(seed);
    this.usual = usual;
  }

  private static final Map<String, Method> OF_X = methodsOf(GoingAbout.class);
  private static final Map<String, Method> OF_PLAIN = methodsOf(Plain.class);

  private static Map<String, Method> methodsOf(Class<?> of) {
    Map<String, Method> methods = new HashMap<>();
    List<String> face = new ArrayList<>();
    for (String call : CALLS) {
      face.add(call.split(" ")[0]);
    }
    for (Method method : of.getDeclaredMethods()) {
      boolean helper = Arrays.asList(method.getParameterTypes()).contains(Plain.State.class);
      if (face.contains(method.getName()) && !helper && method.getReturnType() == int.class) {
        method.setAccessible(true);
        methods.put(method.getName(), method);
      }
    }
    return methods;
  }

  private int within(int most) {
    return random.nextInt(most + 1);
  }

  private int odd(int fitting) {
    return random.nextInt(usual) == 0 ? EDGES[random.nextInt(EDGES.length)] : fitting;
  }

  private int edgeOrAny() {
    return random.nextBoolean() ? EDGES[random.nextInt(EDGES.length)]
        : random.nextBoolean() ? random.nextInt() : random.nextInt(300) - 100;
  }

  private Object argument(char kind) {
    switch (kind) {
      case 'p': return odd(within(Math.max(0, people - 1)));
      case 'K': return odd(within(69));
      case 'k': return odd(within(6));
      case 'N': return odd(random.nextInt(4) == 0 ? plain(Math.max(0, people)) : within(99));
      case 'S': return odd(within(9));
      case 'u': return odd(within(1));
      case 'h': return odd(within(3));
      case 'w': return odd(within(4));
      case 'f': return odd(1 + within(7));
      case 'd': return odd(random.nextInt(4) == 0 ? 1 + within(99) : 1 + within(4));
      case 'l': return odd(1 + within(9));
      case 'e': return odd(random.nextInt(3) == 0 ? within(100) : within(9));
      case 'v': return odd(within(1));
      case 'q': return odd(1 + within(3));
      case 't': return odd(within(4));
      case 'V': return odd(within(3));
      case 'b': return odd(within(6));
      case 'B': return odd(8 * (1 << within(2)));
      case 'n': return odd(random.nextBoolean() ? within(people + 1) : within(24));
      case 'i': return odd(within(7));
      case 'j': return odd(within(3));
      case 'Y': return random.nextInt(5) == 0 ? edgeOrAny() : within(random.nextBoolean() ? 99 : 9);
      case 'c': return odd(within(6));
      case 'o': return odd(1 + within(5));
      case 'L': return random.nextLong();
      default: return edgeOrAny();
    }
  }

  /** NEAR of somebody, so that what is told is often right. */
  private int plain(int of) {
    int near = of == 0 ? 0 : plain.personIs(random.nextInt(of), 2);
    return Math.max(0, near);
  }

  private String operand(int depth, String names) {
    int what = random.nextInt(8);
    if (what < 2) {
      return Integer.toString(random.nextInt(new int[] {3, 10, 100, 10000}[random.nextInt(4)]));
    }
    if (what < 6 || depth > 3) {
      return names.substring(0, 3).charAt(random.nextInt(3)) + "";
    }
    return what == 6 ? "!" + operand(depth + 1, names) : "(" + text(depth + 1, names) + ")";
  }

  private String text(int depth, String names) {
    StringBuilder text = new StringBuilder(operand(depth, names));
    while (random.nextInt(5) < 3) {
      text.append("|&<=>+-*/%+-*/%".charAt(random.nextInt(15))).append(operand(depth, names));
    }
    return text.toString();
  }

  private String spoilt(String text) {
    StringBuilder spoilt = new StringBuilder(text);
    String signs = "0123456789rnsgd|&<=>+-*/%!()x \u00e9";
    int at = random.nextInt(text.length() + 1);
    switch (random.nextInt(3)) {
      case 0: spoilt.insert(at, signs.charAt(random.nextInt(signs.length()))); break;
      case 1: spoilt.setLength(at); break;
      default: if (at < text.length()) spoilt.deleteCharAt(at);
    }
    return spoilt.toString();
  }

  private int ask(String name, Object... arguments) throws ReflectiveOperationException {
    int got = (int) OF_X.get(name).invoke(x, arguments);
    int want = (int) OF_PLAIN.get(name).invoke(plain, arguments);
    said.add(name + Arrays.toString(arguments) + " = " + want);
    Due.due(name + Arrays.toString(arguments), got, want);
    if (got != want) {
      System.out.println("after " + said);
      Due.finish();
    }
    return want;
  }

  private void write(int use, String text) throws ReflectiveOperationException {
    for (int from = 0; from < text.length(); from += 8) {
      int n = Math.min(8, text.length() - from);
      long word = random.nextLong();
      for (int i = 0; i < n; i++) {
        word = word & ~(255L << 8 * i) | (text.charAt(from + i) & 255L) << 8 * i;
      }
      ask("feed", word, n);
    }
    ask("text", use);
  }

  private void run(int most) throws ReflectiveOperationException {
    int weights = 0;
    for (String call : CALLS) {
      weights += call.charAt(call.length() - 1) - '0';
    }
    while (said.size() < 500) {
      if (random.nextInt(25) == 0) {
        int use = within(1);
        String text = text(0, Plain.NAMES[use]);
        write(use, text.length() > 58 || random.nextInt(3) == 0 ? spoilt(text) : text);
        continue;
      }
      int at = random.nextInt(weights);
      int i = 0;
      while (at >= CALLS[i].charAt(CALLS[i].length() - 1) - '0') {
        at -= CALLS[i].charAt(CALLS[i].length() - 1) - '0';
        i++;
      }
      String[] call = CALLS[i].split(" ");
      if (call[0].equals("person") && people >= most && random.nextInt(20) != 0) {
        continue;
      }
      Object[] arguments = new Object[call[1].length()];
      for (int k = 0; k < arguments.length; k++) {
        arguments[k] = argument(call[1].charAt(k));
      }
      if (call[0].equals("move") && random.nextInt(3) == 0) {
        arguments[2] = arguments[0];
      }
      ask(call[0], arguments);
      people = ask("count", 0);
    }
  }

  public static void main(String[] args) throws ReflectiveOperationException {
    int runs = args.length > 0 ? Integer.parseInt(args[0]) : 250;
    for (int seed = 0; seed < runs; seed++) {
      new RandomRunsTest(seed, seed % 5 == 4 ? 3 : 40).run(1 + seed % 8);
    }
    Due.finish();
  }
}
