/**
 * A suburb in which it is going about that it is going about: people of kinds who read each other's
 * signs, what they take each other to be, and what would come of it. An act that cannot be done
 * answers one of the ERRORS, LOW - 1 to LOW - 6, and changes nothing but what told() tells.
 */
public final class GoingAbout {
  private static final int LOW = -1000000000;
  private static final int BEYOND = 1;
  private static final int NONE = 2;
  private static final int STATE = 3;
  private static final int FULL = 4;
  private static final int UNLIKE = 5;
  private static final int PARTED = 6;

  private static final int PERSON = 0;
  private static final int GOSSIP = 1;
  private static final int VICAR = 2;
  private static final int DOCTOR = 3;
  private static final int NEWCOMER = 4;
  private static final int MAKER = 5;
  private static final int QUIET = 6;
  private static final int KINDS = 7;
  /** The KIND above each KIND; -1 above PERSON. */
  private static final int[] ABOVE = {-1, PERSON, PERSON, PERSON, GOSSIP, VICAR, PERSON};

  private static final int MOST_PEOPLE = 8;
  private static final int MOST_NUMBER = 9;
  private static final int MOST_NEAR = 99;
  private static final int MOST_SIGN = 9;
  private static final int LAST_DAY = 9999;
  private static final int DAYS_AHEAD = 100;
  private static final int MOST_TAPE = 60;
  private static final int MOST_WAITING = 24;
  private static final int SHEETS = 4;
  private static final int MOST_ON_SHEET = 24;
  private static final int MOST_TURNS = 64;

  private static final int TAKES = 0;
  private static final int SIGN = 1;

  private final Suburb now = new Suburb();
  private final Suburb kept = new Suburb();
  private int images;
  private final Standing thought = new Standing();
  private final Standing signed = new Standing();
  private final Reading reading = new Reading();
  private final Voices voices = new Voices();
  private final Sheet[] sheets = {new Sheet(), new Sheet(), new Sheet(), new Sheet()};
  private final int[] errors = new int[PARTED + 1];

  public GoingAbout() {
  }

  // ---- people

  public int person(int km, int near, int shows) {
    if (!isKind(km) || !isNear(near) || !isSign(shows)) {
      return error(BEYOND);
    }
    if (now.people >= MOST_PEOPLE) {
      return error(FULL);
    }
    return now.join(km, near, shows);
  }

  public int personIs(int person, int what) {
    if (!now.has(person)) {
      return error(BEYOND);
    }
    switch (what) {
      case 0: return now.kind[person];
      case 1: return now.m[person];
      case 2: return now.standing.near[person];
      case 3: return now.standing.shows[person];
      case 4: return now.called[person];
      default: return error(BEYOND);
    }
  }

  public int become(int person, int km) {
    if (!now.has(person) || !isKind(km)) {
      return error(BEYOND);
    }
    int was = now.kind[person];
    now.kind[person] = km / 10;
    now.m[person] = km % 10;
    return was;
  }

  public int as(int person, int kind) {
    if (!now.has(person) || !isWithin(kind, KINDS - 1)) {
      return error(BEYOND);
    }
    return isUnder(now.kind[person], kind) ? now.m[person] : error(UNLIKE);
  }

  public int shows(int person, int sign) {
    if (!now.has(person) || !isSign(sign)) {
      return error(BEYOND);
    }
    int was = now.standing.shows[person];
    now.standing.shows[person] = sign;
    return was;
  }

  public int seems(int person, int near) {
    if (!now.has(person) || !isNear(near)) {
      return error(BEYOND);
    }
    int was = now.standing.near[person];
    now.standing.near[person] = near;
    return was;
  }

  public int taken(int person, int other) {
    if (!now.has(person) || !now.has(other) || person == other) {
      return error(BEYOND);
    }
    Standing standing = now.standing;
    return now.takenBy(person, standing.near[other], standing.shows[other], standing.day);
  }

  public int call(int one, int other) {
    if (!now.has(one) || !now.has(other) || one == other) {
      return error(BEYOND);
    }
    return now.meet(one, other);
  }

  // ---- texts

  public int feed(long word, int n) {
    if (n < 1 || n > 8) {
      return error(BEYOND);
    }
    if (n > MOST_TAPE - now.taped) {
      return error(FULL);
    }
    return now.record(word, n);
  }

  public int text(int use) {
    if (!isUse(use)) {
      return error(BEYOND);
    }
    int fault = reading.read(now.tape, now.taped, use, now.lawOf(use));
    now.taped = 0;
    return fault < 0 ? 1 : -10 - fault;
  }

  public int untell(int use) {
    if (!isUse(use)) {
      return error(BEYOND);
    }
    Law law = now.lawOf(use);
    int was = law.size > 0 ? 1 : 0;
    law.size = 0;
    return was;
  }

  public int law(int use, int a, int b, int c) {
    return isUse(use) ? now.lawOf(use).gives(a, b, c) : error(BEYOND);
  }

  // ---- days

  public int days(int n) {
    if (n < 1 || n > DAYS_AHEAD) {
      return error(BEYOND);
    }
    if (n > LAST_DAY - now.standing.day) {
      return error(STATE);
    }
    for (int gone = 0; gone < n; gone++) {
      now.pass(now.standing);
    }
    return now.standing.day;
  }

  public int loose(int n) {
    if (n < 1 || n > 30) {
      return error(BEYOND);
    }
    if (n > LAST_DAY - now.standing.day) {
      return error(STATE);
    }
    for (int gone = 0; gone < n; gone++) {
      now.drawMoves();
      now.pass(now.standing);
    }
    return now.nearestIn(now.standing);
  }

  public int seed(int v) {
    int was = now.z;
    now.z = v;
    return was;
  }

  // ---- what is, what would be

  public int nearest(int n) {
    if (!isWithin(n, DAYS_AHEAD)) {
      return error(BEYOND);
    }
    if (now.people == 0) {
      return error(STATE);
    }
    think(n);
    return now.nearestIn(thought);
  }

  public int then(int person, int n, int what) {
    if (!now.has(person) || !isWithin(n, DAYS_AHEAD) || !isWithin(what, 1)) {
      return error(BEYOND);
    }
    think(n);
    return what == 0 ? thought.near[person] : thought.shows[person];
  }

  public int settles() {
    think(0);
    for (int gone = 0; gone <= DAYS_AHEAD; gone++) {
      if (!now.pass(thought)) {
        return gone;
      }
    }
    return error(NONE);
  }

  public int rank(int person) {
    return now.has(person) ? now.countNearer(person) : error(BEYOND);
  }

  public int signs(int person, int sign, int n, int what) {
    if (!now.has(person) || !isSign(sign) || n < 1 || n > 4 || !isWithin(what, 1)) {
      return error(BEYOND);
    }
    think(n);
    thinkSigned(sign, n);
    int set = fewestFor(person);
    if (set < 0) {
      return error(NONE);
    }
    return what == 0 ? Integer.bitCount(set) : set;
  }

  public int heard(int person) {
    return now.has(person) ? now.comeToFrom(person) : error(BEYOND);
  }

  public int odds(int person, int part) {
    if (!now.has(person) || !isWithin(part, 1)) {
      return error(BEYOND);
    }
    int others = now.people - 1;
    if (others < 1) {
      return error(STATE);
    }
    int above = now.countTakenNearer(person);
    int common = commonDivisor(above, others);
    if (common < 1) {
      return error(STATE);
    }
    return part == 0 ? above / common : others / common;
  }

  public int began(int sheet, int n, int what) {
    if (!isSheet(sheet) || !isWithin(n, 20) || !isWithin(what, 1)) {
      return error(BEYOND);
    }
    if (sheets[sheet].isMissing()) {
      return error(NONE);
    }
    think(n);
    int ways = 0;
    int least = 0;
    for (int sign = 1; sign <= MOST_SIGN; sign++) {
      thinkSigned(sign, n);
      for (int who = 0; who < now.people; who++) {
        if (tellsMixed(sheets[sheet], 1 << who)) {
          int way = 10 * who + sign;
          least = ways == 0 ? way : Math.min(least, way);
          ways++;
        }
      }
    }
    if (what == 0) {
      return ways;
    }
    return ways == 0 ? error(NONE) : least;
  }

  public int fits(int sheet) {
    if (!isSheet(sheet)) {
      return error(BEYOND);
    }
    if (sheets[sheet].isMissing()) {
      return error(NONE);
    }
    think(0);
    for (int gone = 0; gone <= DAYS_AHEAD; gone++) {
      if (tellsMixed(sheets[sheet], 0)) {
        return gone;
      }
      now.pass(thought);
    }
    return error(NONE);
  }

  // ---- voices, sheets, images, what is told

  public int voice(int person, int voice, int x) {
    if (!now.has(person) || !isWithin(voice, Voices.PARTS)) {
      return error(BEYOND);
    }
    int answer = voices.hear(person, now.kind[person], now.m[person], voice, x);
    return voices.parted ? error(PARTED) : answer;
  }

  public int body(int i) {
    return i >= 0 && i < voices.traced ? voices.trace[i] : error(NONE);
  }

  public int sheet(int sheet, int bits, int n) {
    if (!isSheet(sheet) || bits != 0 && bits != 8 && bits != 16 && bits != 32) {
      return error(BEYOND);
    }
    if (bits != 0 && n < 0) {
      return error(STATE);
    }
    if (bits != 0 && n > MOST_ON_SHEET) {
      return error(BEYOND);
    }
    sheets[sheet].lay(bits, n);
    return 1;
  }

  public int put(int sheet, int i, int v) {
    if (!isSheet(sheet)) {
      return error(BEYOND);
    }
    if (sheets[sheet].isMissing()) {
      return error(NONE);
    }
    if (i < 0 || i >= sheets[sheet].size) {
      return error(BEYOND);
    }
    sheets[sheet].write(i, v);
    return 1;
  }

  public int move(int sheet, int i, int other, int j, int n) {
    if (!isSheet(sheet) || !isSheet(other)) {
      return error(BEYOND);
    }
    Sheet from = sheets[sheet];
    Sheet to = sheets[other];
    if (from.isMissing() || to.isMissing()) {
      return error(NONE);
    }
    if (from.bits != to.bits) {
      return error(UNLIKE);
    }
    if (!from.holds(i, n) || !to.holds(j, n)) {
      return error(BEYOND);
    }
    System.arraycopy(from.numbers, i, to.numbers, j, n);
    return n;
  }

  public int nears(int sheet) {
    if (!isSheet(sheet)) {
      return error(BEYOND);
    }
    if (sheets[sheet].isMissing()) {
      return error(NONE);
    }
    Sheet from = sheets[sheet];
    int done = 0;
    while (done < from.size && done < now.people && isNear(from.numbers[done])) {
      now.standing.near[done] = from.numbers[done];
      done++;
    }
    return done;
  }

  public int judge(int sheet) {
    if (!isSheet(sheet)) {
      return error(BEYOND);
    }
    if (sheets[sheet].isMissing()) {
      return error(NONE);
    }
    Sheet from = sheets[sheet];
    int right = 0;
    while (right < from.size && right < now.people
        && from.numbers[right] == now.signOf(right, now.standing)) {
      right++;
    }
    return right;
  }

  public int image() {
    kept.copy(now);
    images++;
    return images;
  }

  public int restore() {
    if (images == 0) {
      return error(NONE);
    }
    now.copy(kept);
    return now.standing.day;
  }

  public int tell(int v) {
    if (now.waiting >= MOST_WAITING) {
      return error(FULL);
    }
    now.waits[now.waiting] = v;
    now.waiting++;
    return now.waiting;
  }

  public int check() {
    int waited = now.waiting;
    now.waiting = 0;
    for (int i = 0; i < waited; i++) {
      if (i >= now.people || now.waits[i] != now.standing.near[i]) {
        return 1 + i;
      }
    }
    return 0;
  }

  public int count(int what) {
    switch (what) {
      case 0: return now.people;
      case 1: return now.standing.day;
      case 2: return now.nearestIn(now.standing);
      case 3: return now.taped;
      case 4: return now.waiting;
      case 5: return voices.traced;
      case 6: return now.z;
      default: return error(BEYOND);
    }
  }

  public int told(int k) {
    return k >= BEYOND && k <= PARTED ? errors[k] : error(BEYOND);
  }

  // ---- what the acts share

  private int error(int which) {
    if (which >= BEYOND && which <= PARTED) {
      errors[which]++;
    }
    return LOW - which;
  }

  private static boolean isWithin(int v, int most) {
    return v >= 0 && v <= most;
  }

  private static boolean isKind(int km) {
    return isWithin(km, 10 * (KINDS - 1) + MOST_NUMBER);
  }

  private static boolean isNear(int near) {
    return isWithin(near, MOST_NEAR);
  }

  private static boolean isSign(int sign) {
    return isWithin(sign, MOST_SIGN);
  }

  private static boolean isUse(int use) {
    return use == TAKES || use == SIGN;
  }

  private static boolean isSheet(int sheet) {
    return isWithin(sheet, SHEETS - 1);
  }

  private static boolean isUnder(int kind, int above) {
    int at = kind;
    for (int up = 0; up < KINDS && at > PERSON && at < KINDS && at != above; up++) {
      at = ABOVE[at];
    }
    return at == above;
  }

  private static int commonDivisor(int one, int other) {
    int large = one;
    int small = other;
    for (int turn = 0; turn < MOST_TURNS && small > 0; turn++) {
      int left = large % small;
      large = small;
      small = left;
    }
    return large;
  }

  private void think(int n) {
    thought.copy(now.standing);
    for (int gone = 0; gone < n; gone++) {
      now.pass(thought);
    }
  }

  /**
   * Everybody SHOWS the sign. As one's next NEAR and SHOWS come of one's own NEAR and SHOWS and of
   * the others' KINDS alone, what one becomes here is what one becomes whoever else SHOWS it: so
   * any set of people is looked up person by person, in signed if in the set, else in thought.
   */
  private void thinkSigned(int sign, int n) {
    signed.copy(now.standing);
    for (int one = 0; one < now.people; one++) {
      signed.shows[one] = sign;
    }
    for (int gone = 0; gone < n; gone++) {
      now.pass(signed);
    }
  }

  private int nearIfSigned(int one, int set) {
    return (set >> one & 1) != 0 ? signed.near[one] : thought.near[one];
  }

  private int nearestIfSigned(int set) {
    int best = -1;
    for (int one = 0; one < now.people; one++) {
      if (best < 0 || nearIfSigned(one, set) > nearIfSigned(best, set)) {
        best = one;
      }
    }
    return best;
  }

  /** The fewest, of several the least set, who must show the sign; -1 if no set does. */
  private int fewestFor(int person) {
    int best = -1;
    for (int set = 0; set < 1 << now.people; set++) {
      boolean fewer = best < 0 || Integer.bitCount(set) < Integer.bitCount(best);
      if (fewer && nearestIfSigned(set) == person) {
        best = set;
      }
    }
    return best;
  }

  private boolean tellsMixed(Sheet sheet, int set) {
    if (sheet.size > now.people) {
      return false;
    }
    for (int one = 0; one < sheet.size; one++) {
      if (sheet.numbers[one] != nearIfSigned(one, set)) {
        return false;
      }
    }
    return true;
  }

  /** What changes as DAYS go by: kept apart, as it is also thought ahead. */
  static final class Standing {
    private final int[] near = new int[MOST_PEOPLE];
    private final int[] shows = new int[MOST_PEOPLE];
    private int day;

    private void copy(Standing other) {
      System.arraycopy(other.near, 0, near, 0, MOST_PEOPLE);
      System.arraycopy(other.shows, 0, shows, 0, MOST_PEOPLE);
      day = other.day;
    }
  }

  /** All that an IMAGE keeps. */
  static final class Suburb {
    private int people;
    private final int[] kind = new int[MOST_PEOPLE];
    private final int[] m = new int[MOST_PEOPLE];
    private final int[] called = new int[MOST_PEOPLE];
    private final Standing standing = new Standing();
    private final Law takes = new Law(MOST_NEAR);
    private final Law sign = new Law(MOST_SIGN);
    private final byte[] tape = new byte[MOST_TAPE];
    private int taped;
    private final int[] waits = new int[MOST_WAITING];
    private int waiting;
    private int z = 1;

    private void copy(Suburb other) {
      people = other.people;
      System.arraycopy(other.kind, 0, kind, 0, MOST_PEOPLE);
      System.arraycopy(other.m, 0, m, 0, MOST_PEOPLE);
      System.arraycopy(other.called, 0, called, 0, MOST_PEOPLE);
      standing.copy(other.standing);
      takes.copy(other.takes.steps, other.takes.size);
      sign.copy(other.sign.steps, other.sign.size);
      System.arraycopy(other.tape, 0, tape, 0, MOST_TAPE);
      taped = other.taped;
      System.arraycopy(other.waits, 0, waits, 0, MOST_WAITING);
      waiting = other.waiting;
      z = other.z;
    }

    private boolean has(int person) {
      return person >= 0 && person < people;
    }

    private Law lawOf(int use) {
      return use == SIGN ? sign : takes;
    }

    private int join(int km, int near, int shows) {
      int number = people;
      if (number >= MOST_PEOPLE) {
        return number;
      }
      kind[number] = km / 10;
      m[number] = km % 10;
      called[number] = 0;
      standing.near[number] = near;
      standing.shows[number] = shows;
      people++;
      return number;
    }

    private int meet(int one, int other) {
      int nearer = Math.max(standing.near[one], standing.near[other]);
      standing.near[one] = nearer;
      standing.near[other] = nearer;
      called[one] |= 1 << other;
      return nearer;
    }

    private int record(long word, int n) {
      for (int i = 0; i < n && taped < MOST_TAPE; i++) {
        tape[taped] = (byte) (word >>> 8 * i);
        taped++;
      }
      return taped;
    }

    private int draw() {
      z = z * 1103515245 + 12345;
      return z >>> 8;
    }

    private void drawMoves() {
      if (people < 2) {
        return;
      }
      int shower = draw() % people;
      standing.shows[shower] = draw() % 10;
      int caller = draw() % people;
      int other = draw() % people;
      if (caller != other) {
        meet(caller, other);
      }
    }

    /** What one of PEOPLE takes another to be who is so near and shows that. */
    private int takenBy(int reader, int near, int shows, int day) {
      return takes.gives(readsOf(kind[reader], m[reader], near, shows, day), near, shows);
    }

    private int signOf(int one, Standing at) {
      int tells = tellsOf(kind[one], at.near[one], at.shows[one], at.day);
      return sign.gives(tells, at.near[one], at.day % 7);
    }

    private int nearAfter(int one, Standing at) {
      if (people < 2) {
        return at.near[one];
      }
      int all = 0;
      for (int reader = 0; reader < people; reader++) {
        if (reader != one) {
          all += takenBy(reader, at.near[one], at.shows[one], at.day);
        }
      }
      return all / (people - 1);
    }

    /** One by one is as all at once: nobody's day comes of another one's NEAR and SHOWS. */
    private boolean pass(Standing at) {
      boolean changed = false;
      for (int one = 0; one < people; one++) {
        int near = nearAfter(one, at);
        int shows = signOf(one, at);
        changed |= near != at.near[one] || shows != at.shows[one];
        at.near[one] = near;
        at.shows[one] = shows;
      }
      at.day++;
      return changed;
    }

    private int nearestIn(Standing at) {
      int best = -1;
      for (int one = 0; one < people; one++) {
        if (best < 0 || at.near[one] > at.near[best]) {
          best = one;
        }
      }
      return best;
    }

    private int countNearer(int person) {
      int nearer = 0;
      for (int one = 0; one < people; one++) {
        if (standing.near[one] > standing.near[person]) {
          nearer++;
        }
      }
      return nearer;
    }

    private int countTakenNearer(int person) {
      int nearer = 0;
      for (int reader = 0; reader < people; reader++) {
        if (reader != person && takenBy(reader, standing.near[person], standing.shows[person],
            standing.day) > standing.near[person]) {
          nearer++;
        }
      }
      return nearer;
    }

    /** Each round but the last comes to one more, so as many rounds as people are enough. */
    private int comeToFrom(int person) {
      int come = 1 << person;
      for (int round = 0; round < people; round++) {
        for (int one = 0; one < people; one++) {
          if ((come >> one & 1) != 0) {
            come |= called[one];
          }
        }
      }
      return come;
    }

    private static int readsOf(int kind, int m, int near, int shows, int day) {
      int plain = 10 * shows;
      switch (kind) {
        case GOSSIP: return plain + 5 + m;
        case VICAR: return (plain + near) / 2;
        case DOCTOR: return 99 - plain;
        case NEWCOMER: return plain + 5 + m + day % 7;
        case MAKER: return 11 * m;
        case QUIET: return shows == 0 ? 90 - m : plain;
        default: return plain;
      }
    }

    private static int tellsOf(int kind, int near, int shows, int day) {
      int gossips = shows + (near > 50 ? 1 : 0);
      switch (kind) {
        case GOSSIP: return gossips;
        case VICAR: return shows - 1;
        case NEWCOMER: return gossips + (day % 3 == 0 ? 1 : 0);
        case MAKER: return near / 10;
        case QUIET: return 0;
        default: return shows;
      }
    }
  }

  /** The TEXT of a USE, as steps for a stack (0 or above: a number); none if it has no steps. */
  static final class Law {
    private static final int FIRST_NAME = -1;
    private static final int SECOND_NAME = -2;
    private static final int THIRD_NAME = -3;

    private final int most;
    private final int[] steps = new int[MOST_TAPE];
    private int size;
    private final int[] stack = new int[MOST_TAPE];

    private Law(int most) {
      this.most = most;
    }

    private void copy(int[] from, int n) {
      size = Math.max(0, Math.min(n, Math.min(from.length, MOST_TAPE)));
      System.arraycopy(from, 0, steps, 0, size);
    }

    private int gives(int a, int b, int c) {
      int top = 0;
      stack[0] = a;
      for (int i = 0; i < size; i++) {
        int step = steps[i];
        if (step >= THIRD_NAME) {
          if (top >= MOST_TAPE) {
            return 0;
          }
          stack[top] = step >= 0 ? step : named(step, a, b, c);
          top++;
        } else if (step == -'!') {
          if (top < 1) {
            return 0;
          }
          stack[top - 1] = stack[top - 1] == 0 ? 1 : 0;
        } else {
          if (top < 2) {
            return 0;
          }
          top--;
          stack[top - 1] = joined(-step, stack[top - 1], stack[top]);
        }
      }
      return Math.max(0, Math.min(most, stack[0]));
    }

    private static int named(int step, int a, int b, int c) {
      if (step == FIRST_NAME) {
        return a;
      }
      return step == SECOND_NAME ? b : c;
    }

    private static int joined(int sign, int left, int right) {
      switch (sign) {
        case '+': return left + right;
        case '-': return left - right;
        case '*': return left * right;
        case '/': return right == 0 ? 0 : left / right;
        case '%': return right == 0 ? 0 : left % right;
        case '<': return left < right ? 1 : 0;
        case '>': return left > right ? 1 : 0;
        case '=': return left == right ? 1 : 0;
        case '&': return left != 0 && right != 0 ? 1 : 0;
        case '|': return left != 0 || right != 0 ? 1 : 0;
        default: return 0;
      }
    }
  }

  /** Reads THE TAPE; where it comes to a byte with which no TEXT goes on, place stays there. */
  static final class Reading {
    private static final String TAKES_NAMES = "rns";
    private static final String SIGN_NAMES = "gnd";
    private static final int MOST_OPEN = 5;
    private static final int MOST_DIGITS = 4;
    /** The levels: 0 |, 1 &, 2 < = >, 3 + -, 4 * / %; what stands between these is level 5. */
    private static final int COMPARING = 2;
    private static final int INNERMOST = 5;

    private final byte[] bytes = new byte[MOST_TAPE];
    private int length;
    private int place;
    private String names = TAKES_NAMES;
    private final int[] steps = new int[MOST_TAPE];
    private int size;

    /** -1, and the law is what was read; else the FAULT, and it stays. */
    private int read(byte[] tape, int taped, int use, Law law) {
      length = Math.max(0, Math.min(taped, Math.min(tape.length, MOST_TAPE)));
      System.arraycopy(tape, 0, bytes, 0, length);
      names = use == SIGN ? SIGN_NAMES : TAKES_NAMES;
      place = 0;
      size = 0;
      if (!readLevel(0, 0) || place < length) {
        return place;
      }
      law.copy(steps, size);
      return -1;
    }

    private void step(int step) {
      if (size < MOST_TAPE) {
        steps[size] = step;
        size++;
      }
    }

    private static int levelOf(int sign) {
      switch (sign) {
        case '|': return 0;
        case '&': return 1;
        case '<': case '=': case '>': return COMPARING;
        case '+': case '-': return 3;
        case '*': case '/': case '%': return 4;
        default: return -1;
      }
    }

    private boolean readLevel(int level, int open) {
      if (level >= INNERMOST || open > MOST_OPEN) {
        return readInner(open);
      }
      if (!readLevel(level + 1, open)) {
        return false;
      }
      boolean more = true;
      while (more && place < length && levelOf(bytes[place]) == level) {
        int sign = bytes[place];
        place++;
        if (!readLevel(level + 1, open)) {
          return false;
        }
        step(-sign);
        more = level != COMPARING;
      }
      return true;
    }

    private boolean readInner(int open) {
      if (place >= length || open > MOST_OPEN) {
        return false;
      }
      int sign = bytes[place];
      if (isDigit(sign)) {
        return readNumber();
      }
      int name = sign > 0 ? names.indexOf((char) sign) : -1;
      if (name >= 0) {
        place++;
        step(Law.FIRST_NAME - name);
        return true;
      }
      if (sign != '!' && sign != '(' || open == MOST_OPEN) {
        return false;
      }
      place++;
      if (sign == '(') {
        return readLevel(0, open + 1) && readClosing();
      }
      boolean read = readInner(open + 1);
      step(-'!');
      return read;
    }

    private boolean readClosing() {
      if (place >= length || bytes[place] != ')') {
        return false;
      }
      place++;
      return true;
    }

    private boolean readNumber() {
      int number = 0;
      for (int digits = 0; digits < MOST_DIGITS && place < length && isDigit(bytes[place]); digits++) {
        number = 10 * number + bytes[place] - '0';
        place++;
      }
      step(number);
      return true;
    }

    private static boolean isDigit(int sign) {
      return sign >= '0' && sign <= '9';
    }
  }

  /** The VOICES, and THE TRACE of the latest. */
  static final class Voices {
    private static final int SIGHS = 0;
    private static final int STIRS = 1;
    private static final int CALLS = 2;
    private static final int PARTS = 3;
    private static final int VOICES = 4;
    /** The BODY of each KIND for each VOICE, in the order of both; 0 where a KIND has none. */
    private static final int[] BODIES = {
      10, 11, 12, 13,
      20, 0, 0, 21,
      0, 30, 0, 0,
      0, 0, 40, 0,
      50, 0, 51, 0,
      0, 60, 0, 0,
      70, 71, 0, 0,
    };
    private static final int MOST_TRACED = 30;
    private static final int DEEPEST = 20;

    private final int[] trace = new int[MOST_TRACED];
    private int traced;
    private boolean parted;
    private int k;
    private int kind;
    private int m;

    private int hear(int number, int ofKind, int ofM, int voice, int x) {
      k = number;
      kind = ofKind;
      m = ofM;
      traced = 0;
      parted = false;
      return speak(kind, voice, x, 0);
    }

    /** The BODY of that KIND, or of the next one above that has one. */
    private int speak(int from, int voice, int x, int depth) {
      int at = from;
      if (at < PERSON || at >= KINDS || !isWithin(voice, PARTS) || depth > DEEPEST) {
        return 0;
      }
      for (int up = 0; up < KINDS && at > PERSON && BODIES[at * VOICES + voice] == 0; up++) {
        at = ABOVE[at];
      }
      int body = BODIES[at * VOICES + voice];
      if (traced < MOST_TRACED) {
        trace[traced] = body;
        traced++;
      }
      return workOut(body, ABOVE[at], x, depth + 1);
    }

    private int workOut(int body, int above, int x, int depth) {
      switch (body) {
        case 10: return x + k;
        case 11: return speak(kind, SIGHS, x, depth) * 2;
        case 12: return speak(kind, STIRS, x, depth) - m;
        case 13: return part(x);
        case 20: return speak(above, SIGHS, x, depth) - 4;
        case 21: return partAndStir(above, x, depth);
        case 30: return 0 - speak(above, STIRS, x, depth);
        case 40: return speak(above, CALLS, x / 2, depth);
        case 50: return speak(above, SIGHS, x, depth) * 3;
        case 51: return speak(above, CALLS, x, depth) ^ k;
        case 60: return speak(above, STIRS, x + 1, depth);
        case 70: return 9;
        case 71: return speak(above, STIRS, x, depth) + m;
        default: return 0;
      }
    }

    private int part(int x) {
      int by = m - k;
      if (by == 0) {
        parted = true;
        return 0;
      }
      return x / by;
    }

    /** Nothing more begins once it has come to PARTED. */
    private int partAndStir(int above, int x, int depth) {
      int left = speak(above, PARTS, x, depth);
      return parted ? 0 : left + speak(kind, STIRS, 1, depth);
    }
  }

  /** A row of numbers of 8, 16 or 32 bits; of 0 bits it is missing. */
  static final class Sheet {
    private int bits;
    private int size;
    private final int[] numbers = new int[MOST_ON_SHEET];

    private boolean isMissing() {
      return bits == 0;
    }

    private void lay(int ofBits, int n) {
      bits = ofBits;
      size = bits == 0 ? 0 : Math.max(0, Math.min(n, MOST_ON_SHEET));
      for (int i = 0; i < MOST_ON_SHEET; i++) {
        numbers[i] = 0;
      }
    }

    private void write(int i, int v) {
      if (i >= 0 && i < size) {
        numbers[i] = bits == 32 ? v : v & (1 << bits) - 1;
      }
    }

    private boolean holds(int i, int n) {
      return n >= 0 && i >= 0 && n <= size && i <= size - n;
    }
  }
}
