import java.util.ArrayList;
import java.util.HashMap;
import java.util.List;
import java.util.Map;

/**
 * The document once more, in the plainest words that there are for it, and by other ways than the
 * program: all at once by copies, sets one by one, voices by Java's own super, texts cut in pieces.
 */
final class Plain {
  static final class Parted extends RuntimeException {
    private static final long serialVersionUID = 1L;
  }

  static class Person {
    int m;
    int number;
    List<Integer> trace;

    int reads(int near, int shows, int day) { return 10 * shows; }
    int tells(int near, int shows, int day) { return shows; }
    int sighs(int x) { trace.add(10); return x + number; }
    int stirs(int x) { trace.add(11); return sighs(x) * 2; }
    int calls(int x) { trace.add(12); return stirs(x) - m; }
    int parts(int x) {
      trace.add(13);
      if (m - number == 0) {
        throw new Parted();
      }
      return x / (m - number);
    }
  }

  static class Gossip extends Person {
    int reads(int near, int shows, int day) { return super.reads(near, shows, day) + 5 + m; }
    int tells(int near, int shows, int day) { return super.tells(near, shows, day) + (near > 50 ? 1 : 0); }
    int sighs(int x) { trace.add(20); return super.sighs(x) - 4; }
    int parts(int x) {
      trace.add(21);
      int left = super.parts(x);
      return left + stirs(1);
    }
  }

  static class Vicar extends Person {
    int reads(int near, int shows, int day) { return (super.reads(near, shows, day) + near) / 2; }
    int tells(int near, int shows, int day) { return super.tells(near, shows, day) - 1; }
    int stirs(int x) { trace.add(30); return 0 - super.stirs(x); }
  }

  static class Doctor extends Person {
    int reads(int near, int shows, int day) { return 99 - super.reads(near, shows, day); }
    int calls(int x) { trace.add(40); return super.calls(x / 2); }
  }

  static class Newcomer extends Gossip {
    int reads(int near, int shows, int day) { return super.reads(near, shows, day) + day % 7; }
    int tells(int near, int shows, int day) { return super.tells(near, shows, day) + (day % 3 == 0 ? 1 : 0); }
    int sighs(int x) { trace.add(50); return super.sighs(x) * 3; }
    int calls(int x) { trace.add(51); return super.calls(x) ^ number; }
  }

  static class Maker extends Vicar {
    int reads(int near, int shows, int day) { return 11 * m; }
    int tells(int near, int shows, int day) { return near / 10; }
    int stirs(int x) { trace.add(60); return super.stirs(x + 1); }
  }

  static class Quiet extends Person {
    int reads(int near, int shows, int day) { return shows == 0 ? 90 - m : super.reads(near, shows, day); }
    int tells(int near, int shows, int day) { return 0; }
    int sighs(int x) { trace.add(70); return 9; }
    int stirs(int x) { trace.add(71); return super.stirs(x) + m; }
  }

  static final class One implements Cloneable {
    int kind;
    int m;
    int near;
    int shows;
    int called;

    One twin() {
      One twin = new One();
      twin.kind = kind;
      twin.m = m;
      twin.near = near;
      twin.shows = shows;
      twin.called = called;
      return twin;
    }
  }

  static final class State {
    List<One> people = new ArrayList<>();
    int day = 0;
    int z = 1;
    String[] texts = {null, null};
    String tape = "";
    List<Integer> waits = new ArrayList<>();

    State twin() {
      State twin = new State();
      for (One one : people) {
        twin.people.add(one.twin());
      }
      twin.day = day;
      twin.z = z;
      twin.texts = texts.clone();
      twin.tape = tape;
      twin.waits = new ArrayList<>(waits);
      return twin;
    }
  }

  private State state = new State();
  private State image = null;
  private int images = 0;
  private List<Integer> trace = new ArrayList<>();
  private final int[][] sheets = new int[4][];
  private final int[] bits = new int[4];
  private final int[] errors = new int[7];

  private int error(int k) {
    errors[k]++;
    return Due.LOW - k;
  }

  private static Person made(int kind) {
    switch (kind) {
      case 0: return new Person();
      case 1: return new Gossip();
      case 2: return new Vicar();
      case 3: return new Doctor();
      case 4: return new Newcomer();
      case 5: return new Maker();
      default: return new Quiet();
    }
  }

  private static Person asPerson(State s, int p) {
    Person person = made(s.people.get(p).kind);
    person.m = s.people.get(p).m;
    person.number = p;
    return person;
  }

  // ---- texts

  static final String[] NAMES = {"rns", "gnd"};

  /** -1, or the FAULT. */
  static int fault(String t, int use) {
    List<Character> open = new ArrayList<>();
    List<Boolean> compared = new ArrayList<>();
    compared.add(false);
    boolean wants = true;
    int i = 0;
    while (i < t.length()) {
      char c = t.charAt(i);
      if (wants) {
        if (c >= '0' && c <= '9') {
          int digits = 0;
          while (i < t.length() && digits < 4 && t.charAt(i) >= '0' && t.charAt(i) <= '9') {
            i++;
            digits++;
          }
          i--;
          wants = false;
        } else if (NAMES[use].indexOf(c) >= 0) {
          wants = false;
        } else if (c == '!' || c == '(') {
          if (open.size() == 5) {
            return i;
          }
          open.add(c);
          if (c == '(') {
            compared.add(false);
          }
        } else {
          return i;
        }
      } else if (c == ')') {
        if (open.isEmpty()) {
          return i;
        }
        open.remove(open.size() - 1);
        compared.remove(compared.size() - 1);
      } else if (c == '|' || c == '&') {
        compared.set(compared.size() - 1, false);
        wants = true;
      } else if (c == '<' || c == '=' || c == '>') {
        if (compared.get(compared.size() - 1)) {
          return i;
        }
        compared.set(compared.size() - 1, true);
        wants = true;
      } else if ("+-*/%".indexOf(c) >= 0) {
        wants = true;
      } else {
        return i;
      }
      while (!wants && !open.isEmpty() && open.get(open.size() - 1) == '!') {
        open.remove(open.size() - 1);
      }
      i++;
    }
    return wants || !open.isEmpty() ? t.length() : -1;
  }

  private static final String[] LEVELS = {"|", "&", "<=>", "+-", "*/%"};

  /** A text, cut at the last sign of the lowest level that stands in no brackets. */
  static final class Piece {
    char sign;
    int number;
    Piece left;
    Piece right;

    int value(int[] names) {
      switch (sign) {
        case '0': return number;
        case 'a': return names[number];
        case '!': return left.value(names) == 0 ? 1 : 0;
        default: return joined(sign, left.value(names), right.value(names));
      }
    }
  }

  private static Piece cut(String t, int use) {
    Piece piece = new Piece();
    for (String level : LEVELS) {
      int open = 0;
      for (int i = t.length() - 1; i > 0; i--) {
        char at = t.charAt(i);
        open += at == ')' ? 1 : at == '(' ? -1 : 0;
        if (open == 0 && level.indexOf(at) >= 0) {
          piece.sign = at;
          piece.left = cut(t.substring(0, i), use);
          piece.right = cut(t.substring(i + 1), use);
          return piece;
        }
      }
    }
    char first = t.charAt(0);
    if (first == '(') {
      return cut(t.substring(1, t.length() - 1), use);
    }
    int name = NAMES[use].indexOf(first);
    piece.sign = first == '!' ? '!' : name >= 0 ? 'a' : '0';
    if (first == '!') {
      piece.left = cut(t.substring(1), use);
    } else {
      piece.number = name >= 0 ? name : Integer.parseInt(t);
    }
    return piece;
  }

  private static final Map<String, Piece> CUT = new HashMap<>();

  static int value(String t, int use, int a, int b, int c) {
    return CUT.computeIfAbsent(use + t, key -> cut(t, use)).value(new int[] {a, b, c});
  }

  private static int joined(char sign, int l, int r) {
    switch (sign) {
      case '|': return l != 0 || r != 0 ? 1 : 0;
      case '&': return l != 0 && r != 0 ? 1 : 0;
      case '<': return l < r ? 1 : 0;
      case '=': return l == r ? 1 : 0;
      case '>': return l > r ? 1 : 0;
      case '+': return l + r;
      case '-': return l - r;
      case '*': return l * r;
      case '/': return r == 0 ? 0 : l / r;
      default: return r == 0 ? 0 : l % r;
    }
  }

  private static int gives(State s, int use, int a, int b, int c) {
    int free = s.texts[use] == null ? a : value(s.texts[use], use, a, b, c);
    int most = use == 0 ? 99 : 9;
    return free < 0 ? 0 : free > most ? most : free;
  }

  // ---- days

  private static int takes(State s, int one, int other) {
    One o = s.people.get(other);
    return gives(s, 0, asPerson(s, one).reads(o.near, o.shows, s.day), o.near, o.shows);
  }

  private static int sign(State s, int one) {
    One o = s.people.get(one);
    return gives(s, 1, asPerson(s, one).tells(o.near, o.shows, s.day), o.near, s.day % 7);
  }

  private static void day(State s) {
    State was = s.twin();
    int n = s.people.size();
    for (int p = 0; p < n; p++) {
      int all = 0;
      for (int q = 0; q < n; q++) {
        all += q == p ? 0 : takes(was, q, p);
      }
      if (n > 1) {
        s.people.get(p).near = all / (n - 1);
      }
      s.people.get(p).shows = sign(was, p);
    }
    s.day++;
  }

  private static State on(State from, int n) {
    State s = from.twin();
    for (int i = 0; i < n; i++) {
      day(s);
    }
    return s;
  }

  private static int nearestOf(State s) {
    int best = -1;
    for (int p = s.people.size() - 1; p >= 0; p--) {
      if (best < 0 || s.people.get(p).near >= s.people.get(best).near) {
        best = p;
      }
    }
    return best;
  }

  private static boolean same(State a, State b) {
    for (int p = 0; p < a.people.size(); p++) {
      if (a.people.get(p).near != b.people.get(p).near || a.people.get(p).shows != b.people.get(p).shows) {
        return false;
      }
    }
    return true;
  }

  private static boolean tells(int[] numbers, State s) {
    for (int i = 0; i < numbers.length; i++) {
      if (i >= s.people.size() || numbers[i] != s.people.get(i).near) {
        return false;
      }
    }
    return true;
  }

  private boolean none(int person) {
    return person < 0 || person >= state.people.size();
  }

  // ---- the face

  int person(int km, int near, int shows) {
    if (km < 0 || km > 69 || near < 0 || near > 99 || shows < 0 || shows > 9) return error(1);
    if (state.people.size() == 8) return error(4);
    One one = new One();
    one.kind = km / 10;
    one.m = km % 10;
    one.near = near;
    one.shows = shows;
    state.people.add(one);
    return state.people.size() - 1;
  }

  int personIs(int person, int what) {
    if (none(person) || what < 0 || what > 4) return error(1);
    One one = state.people.get(person);
    return new int[] {one.kind, one.m, one.near, one.shows, one.called}[what];
  }

  int become(int person, int km) {
    if (none(person) || km < 0 || km > 69) return error(1);
    One one = state.people.get(person);
    int was = one.kind;
    one.kind = km / 10;
    one.m = km % 10;
    return was;
  }

  int as(int person, int kind) {
    if (none(person) || kind < 0 || kind > 6) return error(1);
    return made(kind).getClass().isInstance(asPerson(state, person)) ? state.people.get(person).m : error(5);
  }

  int shows(int person, int sign) {
    if (none(person) || sign < 0 || sign > 9) return error(1);
    int was = state.people.get(person).shows;
    state.people.get(person).shows = sign;
    return was;
  }

  int seems(int person, int near) {
    if (none(person) || near < 0 || near > 99) return error(1);
    int was = state.people.get(person).near;
    state.people.get(person).near = near;
    return was;
  }

  int taken(int person, int other) {
    if (none(person) || none(other) || person == other) return error(1);
    return takes(state, person, other);
  }

  private int meet(int one, int other) {
    One a = state.people.get(one);
    One b = state.people.get(other);
    if (a.near > b.near) {
      b.near = a.near;
    } else {
      a.near = b.near;
    }
    a.called |= 1 << other;
    return a.near;
  }

  int call(int one, int other) {
    if (none(one) || none(other) || one == other) return error(1);
    return meet(one, other);
  }

  int feed(long word, int n) {
    if (n < 1 || n > 8) return error(1);
    if (state.tape.length() + n > 60) return error(4);
    long left = word;
    for (int i = 0; i < n; i++) {
      state.tape += (char) (left & 255);
      left >>= 8;
    }
    return state.tape.length();
  }

  int text(int use) {
    if (use != 0 && use != 1) return error(1);
    String tape = state.tape;
    state.tape = "";
    int fault = fault(tape, use);
    if (fault >= 0) return -10 - fault;
    state.texts[use] = tape;
    return 1;
  }

  int untell(int use) {
    if (use != 0 && use != 1) return error(1);
    int was = state.texts[use] == null ? 0 : 1;
    state.texts[use] = null;
    return was;
  }

  int law(int use, int a, int b, int c) {
    if (use != 0 && use != 1) return error(1);
    return gives(state, use, a, b, c);
  }

  int days(int n) {
    if (n < 1 || n > 100) return error(1);
    if (state.day + n > 9999) return error(3);
    state = on(state, n);
    return state.day;
  }

  private int draw() {
    state.z = state.z * 1103515245 + 12345;
    return state.z >>> 8;
  }

  int loose(int n) {
    if (n < 1 || n > 30) return error(1);
    if (state.day + n > 9999) return error(3);
    int people = state.people.size();
    for (int i = 0; i < n; i++) {
      if (people >= 2) {
        int[] draws = {draw(), draw(), draw(), draw()};
        state.people.get(draws[0] % people).shows = draws[1] % 10;
        if (draws[2] % people != draws[3] % people) {
          meet(draws[2] % people, draws[3] % people);
        }
      }
      day(state);
    }
    return nearestOf(state);
  }

  int seed(int v) {
    int was = state.z;
    state.z = v;
    return was;
  }

  int nearest(int n) {
    if (n < 0 || n > 100) return error(1);
    if (state.people.isEmpty()) return error(3);
    return nearestOf(on(state, n));
  }

  int then(int person, int n, int what) {
    if (none(person) || n < 0 || n > 100 || what < 0 || what > 1) return error(1);
    One one = on(state, n).people.get(person);
    return what == 0 ? one.near : one.shows;
  }

  int settles() {
    State s = state.twin();
    for (int k = 0; k <= 100; k++) {
      State next = on(s, 1);
      if (same(s, next)) return k;
      s = next;
    }
    return error(2);
  }

  int rank(int person) {
    if (none(person)) return error(1);
    int rank = 0;
    for (One one : state.people) {
      rank += one.near > state.people.get(person).near ? 1 : 0;
    }
    return rank;
  }

  int signs(int person, int sign, int n, int what) {
    if (none(person) || sign < 0 || sign > 9 || n < 1 || n > 4 || what < 0 || what > 1) return error(1);
    int people = state.people.size();
    for (int size = 0; size <= people; size++) {
      for (int set = 0; set < 1 << people; set++) {
        if (Integer.bitCount(set) == size) {
          State s = state.twin();
          for (int p = 0; p < people; p++) {
            if ((set & 1 << p) != 0) {
              s.people.get(p).shows = sign;
            }
          }
          if (nearestOf(on(s, n)) == person) return what == 0 ? size : set;
        }
      }
    }
    return error(2);
  }

  private void come(int person, boolean[] come) {
    if (!come[person]) {
      come[person] = true;
      for (int p = 0; p < state.people.size(); p++) {
        if ((state.people.get(person).called & 1 << p) != 0) {
          come(p, come);
        }
      }
    }
  }

  int heard(int person) {
    if (none(person)) return error(1);
    boolean[] come = new boolean[8];
    come(person, come);
    int set = 0;
    for (int p = 0; p < 8; p++) {
      set += come[p] ? 1 << p : 0;
    }
    return set;
  }

  int odds(int person, int part) {
    if (none(person) || part < 0 || part > 1) return error(1);
    int below = state.people.size() - 1;
    if (below == 0) return error(3);
    int above = 0;
    for (int q = 0; q <= below; q++) {
      above += q != person && takes(state, q, person) > state.people.get(person).near ? 1 : 0;
    }
    for (int by = 8; by > 1; by--) {
      if (above % by == 0 && below % by == 0) {
        above /= by;
        below /= by;
      }
    }
    return part == 0 ? above : below;
  }

  int began(int sheet, int n, int what) {
    if (sheet < 0 || sheet > 3 || n < 0 || n > 20 || what < 0 || what > 1) return error(1);
    if (sheets[sheet] == null) return error(2);
    int ways = 0;
    int least = -1;
    for (int who = 0; who < state.people.size(); who++) {
      for (int sign = 1; sign <= 9; sign++) {
        State s = state.twin();
        s.people.get(who).shows = sign;
        if (tells(sheets[sheet], on(s, n))) {
          ways++;
          least = least < 0 ? 10 * who + sign : least;
        }
      }
    }
    if (what == 0) return ways;
    return ways == 0 ? error(2) : least;
  }

  int fits(int sheet) {
    if (sheet < 0 || sheet > 3) return error(1);
    if (sheets[sheet] == null) return error(2);
    for (int k = 0; k <= 100; k++) {
      if (tells(sheets[sheet], on(state, k))) return k;
    }
    return error(2);
  }

  int voice(int person, int voice, int x) {
    if (none(person) || voice < 0 || voice > 3) return error(1);
    trace = new ArrayList<>();
    Person one = asPerson(state, person);
    one.trace = trace;
    try {
      return voice == 0 ? one.sighs(x) : voice == 1 ? one.stirs(x) : voice == 2 ? one.calls(x) : one.parts(x);
    } catch (Parted parted) {
      return error(6);
    }
  }

  int body(int i) {
    return i < 0 || i >= Math.min(30, trace.size()) ? error(2) : trace.get(i);
  }

  int sheet(int sheet, int ofBits, int n) {
    if (sheet < 0 || sheet > 3 || ofBits != 0 && ofBits != 8 && ofBits != 16 && ofBits != 32) return error(1);
    if (ofBits == 0) {
      sheets[sheet] = null;
      return 1;
    }
    if (n < 0) return error(3);
    if (n > 24) return error(1);
    bits[sheet] = ofBits;
    sheets[sheet] = new int[n];
    return 1;
  }

  int put(int sheet, int i, int v) {
    if (sheet < 0 || sheet > 3) return error(1);
    if (sheets[sheet] == null) return error(2);
    if (i < 0 || i >= sheets[sheet].length) return error(1);
    sheets[sheet][i] = bits[sheet] == 8 ? (byte) v : bits[sheet] == 16 ? (short) v : v;
    return 1;
  }

  int move(int sheet, int i, int other, int j, int n) {
    if (sheet < 0 || sheet > 3 || other < 0 || other > 3) return error(1);
    if (sheets[sheet] == null || sheets[other] == null) return error(2);
    if (bits[sheet] != bits[other]) return error(5);
    if (n < 0 || i < 0 || j < 0 || (long) i + n > sheets[sheet].length || (long) j + n > sheets[other].length) {
      return error(1);
    }
    int[] were = sheets[sheet].clone();
    for (int k = 0; k < n; k++) {
      sheets[other][j + k] = were[i + k];
    }
    return n;
  }

  int nears(int sheet) {
    if (sheet < 0 || sheet > 3) return error(1);
    if (sheets[sheet] == null) return error(2);
    int done = 0;
    for (int v : sheets[sheet]) {
      if (v < 0 || v > 99 || done == state.people.size()) break;
      state.people.get(done).near = v;
      done++;
    }
    return done;
  }

  int judge(int sheet) {
    if (sheet < 0 || sheet > 3) return error(1);
    if (sheets[sheet] == null) return error(2);
    int right = 0;
    for (int v : sheets[sheet]) {
      if (right == state.people.size() || v != sign(state, right)) break;
      right++;
    }
    return right;
  }

  int image() {
    image = state.twin();
    return ++images;
  }

  int restore() {
    if (image == null) return error(2);
    state = image.twin();
    return state.day;
  }

  int tell(int v) {
    if (state.waits.size() == 24) return error(4);
    state.waits.add(v);
    return state.waits.size();
  }

  int check() {
    List<Integer> waits = state.waits;
    state.waits = new ArrayList<>();
    for (int i = 0; i < waits.size(); i++) {
      if (i >= state.people.size() || waits.get(i) != state.people.get(i).near) return 1 + i;
    }
    return 0;
  }

  int count(int what) {
    if (what < 0 || what > 6) return error(1);
    return new int[] {state.people.size(), state.day, nearestOf(state), state.tape.length(), state.waits.size(),
        Math.min(30, trace.size()), state.z}[what];
  }

  int told(int k) {
    return k < 1 || k > 6 ? error(1) : errors[k];
  }
}
