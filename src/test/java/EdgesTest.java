/**
 * The sentences of the document that name a boundary, term by term and promise by promise: the
 * least and the most that is taken, none and as many as there may be, and numbers that wrap. What
 * is refused beyond these is in RefusalsTest. Answers are worked out by hand.
 */
public final class EdgesTest {
  private static final int MIN = Integer.MIN_VALUE;
  private static final int MAX = Integer.MAX_VALUE;

  private static void due(String call, long got, long want) {
    Due.due(call, got, want);
  }

  // ---- 1: people, a day, a call, draws

  /** Eight PERSONs whose NEAR is ten times what they SHOW: 0 by 0, 10 by 1, .. 70 by 7. */
  private static GoingAbout eight() {
    return Due.with(0, 0, 0, 0, 10, 1, 0, 20, 2, 0, 30, 3, 0, 40, 4, 0, 50, 5, 0, 60, 6, 0, 70, 7);
  }

  /** km, how NEAR the other one is, what that one SHOWS, DAY, what is READ (not held as yet). */
  private static final int[][] READS = {
    {0, 99, 0, 0, 0}, {9, 0, 9, 0, 90},
    {10, 99, 0, 0, 5}, {19, 0, 0, 0, 14}, {13, 0, 9, 0, 98}, {14, 0, 9, 0, 99}, {15, 0, 9, 0, 100}, {19, 0, 9, 6, 104},
    {20, 0, 0, 0, 0}, {20, 1, 0, 0, 0}, {20, 2, 0, 0, 1}, {20, 99, 0, 0, 49}, {29, 3, 4, 0, 21}, {20, 99, 9, 0, 94},
    {30, 99, 0, 0, 99}, {39, 0, 9, 0, 9}, {30, 0, 1, 6, 89},
    {40, 0, 0, 0, 5}, {40, 0, 0, 6, 11}, {40, 0, 0, 7, 5}, {49, 0, 9, 6, 110}, {40, 0, 0, 9999, 8}, {44, 0, 9, 7, 99},
    {45, 0, 9, 7, 100},
    {50, 99, 9, 0, 0}, {51, 0, 0, 0, 11}, {59, 0, 0, 0, 99},
    {60, 99, 0, 0, 90}, {69, 0, 0, 0, 81}, {69, 0, 1, 0, 10}, {60, 0, 9, 0, 90}};

  private static void reads() {
    for (int[] row : READS) {
      String what = "READS of km " + row[0] + ", near " + row[1] + ", shows " + row[2] + ", DAY " + row[3];
      GoingAbout x = Due.join(Due.onDay(row[3]), row[0], 50, 5, 0, row[1], row[2]);
      due(what, x.taken(0, 1), Math.min(99, row[4]));
      due(what + ", text", Due.text(x, 0, "r=" + row[4]), 1);
      due(what + ", by a TEXT", x.taken(0, 1), 1);
      due(what + ", text", Due.text(x, 0, "n*100+s=" + (100 * row[1] + row[2])), 1);
      due(what + ", NAMES n and s", x.taken(0, 1), 1);
    }
  }

  /** km, NEAR, SHOWS, DAY, what one TELLS (not held as yet). */
  private static final int[][] TELLS = {
    {0, 99, 0, 0, 0}, {9, 0, 9, 0, 9},
    {10, 50, 0, 0, 0}, {10, 51, 0, 0, 1}, {19, 50, 9, 0, 9}, {10, 51, 9, 0, 10}, {10, 99, 8, 0, 9}, {10, 0, 8, 0, 8},
    {20, 99, 0, 0, -1}, {20, 99, 1, 0, 0}, {29, 0, 9, 0, 8},
    {30, 99, 0, 0, 0}, {39, 0, 9, 0, 9},
    {40, 50, 0, 0, 1}, {40, 50, 0, 1, 0}, {40, 50, 0, 2, 0}, {40, 50, 0, 3, 1}, {40, 51, 9, 0, 11}, {40, 51, 9, 1, 10},
    {49, 51, 0, 9998, 1}, {40, 51, 0, 9999, 2}, {40, 50, 8, 9999, 9},
    {50, 0, 9, 0, 0}, {59, 9, 9, 0, 0}, {50, 10, 0, 0, 1}, {50, 89, 0, 0, 8}, {50, 99, 0, 0, 9},
    {60, 99, 9, 0, 0}, {69, 0, 0, 0, 0}};

  private static void tells() {
    for (int[] row : TELLS) {
      String what = "TELLS of km " + row[0] + ", near " + row[1] + ", shows " + row[2] + ", DAY " + row[3];
      GoingAbout x = Due.join(Due.onDay(row[3]), row[0], row[1], row[2]);
      due(what, x.then(0, 1, 1), Math.max(0, Math.min(9, row[4])));
      due(what + ", text", Due.text(x, 1, "g+1=" + (row[4] + 1)), 1);
      due(what + ", by a TEXT", x.then(0, 1, 1), 1);
      due(what + ", text", Due.text(x, 1, "n*10+d=" + (10 * row[1] + row[3] % 7)), 1);
      due(what + ", NAMES n and d", x.then(0, 1, 1), 1);
    }
  }

  /** Takers together, and how many there are: MAKERs take one to be 11 times m near. */
  private static void daysCut() {
    int[][] takers = {{50}, {59}, {59, 50}, {51, 50, 50}, {51, 51, 50, 50}, {59, 59, 59, 59, 59, 59, 59},
      {51, 50, 50, 50, 50, 50, 50}, {50, 50, 50, 50, 50, 50, 50}, {53, 52, 52, 51, 51, 50, 50}};
    int[] near = {0, 99, 99 / 2, 11 / 3, 22 / 4, 99, 11 / 7, 0, 99 / 7};
    for (int i = 0; i < takers.length; i++) {
      GoingAbout x = Due.with(0, 55, 3);
      for (int km : takers[i]) {
        x.person(km, 7, 1);
      }
      due("NEAR by " + takers[i].length + ", thought", x.then(0, 1, 0), near[i]);
      due("days(1)", x.days(1), 1);
      due("NEAR by " + takers[i].length, x.personIs(0, 2), near[i]);
    }
    for (int near0 : new int[] {0, 1, 99}) {
      GoingAbout x = Due.with(0, near0, 9);
      due("100 DAYS alone", x.days(100), 100);
      due("NEAR as it was", x.personIs(0, 2), near0);
      due("SHOWS as it was", x.personIs(0, 3), 9);
    }
  }

  /** Each one's NEAR and SHOWS are as the DAY begins, for one's own sign too. */
  private static void allAtOnce() {
    GoingAbout x = Due.with(10, 51, 0, 50, 99, 0, 20, 9, 0);
    due("days(1)", x.days(1), 1);
    int[][] then = {{(0 + 51 / 2) / 2, 1}, {(5 + 99 / 2) / 2, 9}, {(5 + 0) / 2, 0}};
    for (int p = 0; p < 3; p++) {
      due("NEAR of " + p, x.personIs(p, 2), then[p][0]);
      due("SHOWS of " + p, x.personIs(p, 3), then[p][1]);
    }
  }

  private static void calls() {
    GoingAbout x = eight();
    for (int other = 1; other < 8; other++) {
      due("call(0, " + other + ")", x.call(0, other), 10 * other);
      due("CALLED", x.personIs(0, 4), (2 << other) - 2);
      due("CALLED of the other one", x.personIs(other, 4), 0);
    }
    for (int other = 0; other < 7; other++) {
      x.seems(7, 0);
      x.seems(other, 0);
      due("call(7, " + other + "), both 0", x.call(7, other), 0);
      due("CALLED", x.personIs(7, 4), (2 << other) - 1);
    }
    x.seems(3, 99);
    due("call(3, 4)", x.call(3, 4), 99);
    due("call(4, 3), both 99", x.call(4, 3), 99);
    due("call(5, 4)", x.call(5, 4), 99);
    due("NEAR of 5", x.personIs(5, 2), 99);
    due("CALLED of 4", x.personIs(4, 4), 8);
    due("SHOWS of 5", x.personIs(5, 3), 5);
  }

  /** z, the four draws' z told by hand: none for one alone, four for two and for eight. */
  private static void draws() {
    int[] from = {1, 0, -1, MIN, MAX};
    for (int z : from) {
      int after = z;
      for (int i = 0; i < 4; i++) {
        after = after * 1103515245 + 12345;
      }
      GoingAbout none = new GoingAbout();
      none.seed(z);
      due("nobody, from " + z, none.loose(30), -1);
      due("no draws", none.count(6), z);
      GoingAbout one = Due.with(0, 7, 7);
      one.seed(z);
      due("one alone, from " + z, one.loose(30), 0);
      due("no draws", one.count(6), z);
      due("SHOWS as one did", one.personIs(0, 3), 7);
      due("CALLED nobody", one.personIs(0, 4), 0);
      GoingAbout two = Due.with(0, 7, 7, 0, 8, 8);
      two.seed(z);
      two.loose(1);
      due("two, from " + z, two.count(6), after);
      GoingAbout eight = eight();
      eight.seed(z);
      eight.loose(1);
      due("eight, from " + z, eight.count(6), after);
    }
    firstDraws();
  }

  /** From z 1 the draws are 4310654, 9862832, 2589156, 12872603: 0 SHOWS 2, and 0 CALLS on 1. */
  private static void firstDraws() {
    GoingAbout x = Due.with(0, 7, 7, 0, 8, 8);
    due("NEAREST behind the first draws", x.loose(1), 1);
    int[][] then = {{20, 2, 2}, {80, 8, 0}};
    for (int p = 0; p < 2; p++) {
      due("NEAR of " + p, x.personIs(p, 2), then[p][0]);
      due("SHOWS of " + p, x.personIs(p, 3), then[p][1]);
      due("CALLED of " + p, x.personIs(p, 4), then[p][2]);
    }
    due("z", x.count(6), -999580867);
  }

  private static void dayOfDays() {
    GoingAbout x = Due.onDay(9899);
    due("days(100)", x.days(100), 9999);
    x = Due.onDay(9998);
    due("days(1)", x.days(1), 9999);
    x = Due.onDay(9969);
    due("loose(30)", x.loose(30), -1);
    due("DAY", x.count(1), 9999);
    x = Due.onDay(9998);
    due("loose(1)", x.loose(1), -1);
    due("DAY", x.count(1), 9999);
    x.image();
    due("restore() to DAY 9999", x.restore(), 9999);
  }

  // ---- 2: texts

  /** Each byte as the first one, and as the second behind a digit. */
  private static void bytes() {
    String[] names = {"rns", "gnd"};
    for (int use = 0; use < 2; use++) {
      GoingAbout x = new GoingAbout();
      for (int b = 0; b < 256; b++) {
        if (b % 64 == 0) {
          x = new GoingAbout();
        }
        char sign = (char) b;
        boolean digit = b >= '0' && b <= '9';
        boolean whole = digit || names[use].indexOf(sign) >= 0;
        x.feed(b, 1);
        due("byte " + b + " alone", x.text(use), whole ? 1 : sign == '!' || sign == '(' ? -11 : -10);
        x.feed('1' + (b << 8), 2);
        due("byte " + b + " behind 1", x.text(use), digit ? 1 : "|&<=>+-*/%".indexOf(sign) >= 0 ? -12 : -11);
      }
    }
  }

  private static void text(String text, int fault) {
    for (int use = 0; use < 2; use++) {
      String told = use == 0 ? text : text.replace('r', 'g').replace('s', 'd');
      GoingAbout x = new GoingAbout();
      due("the one ahead", Due.text(x, use, "7"), 1);
      due("text of " + told, Due.text(x, use, told), fault < 0 ? 1 : -10 - fault);
      due("THE TAPE", x.count(3), 0);
      if (fault >= 0) {
        due("the one ahead stays: " + told, x.law(use, 1, 2, 3), 7);
      }
      for (int k = 1; k <= 6; k++) {
        due("a FAULT is no ERROR", x.told(k), 0);
      }
    }
  }

  private static void digits() {
    text("0", -1);
    text("9", -1);
    text("9999", -1);
    text("0000", -1);
    text("00000", 4);
    text("12345", 4);
    text("r+12345", 6);
    text("1234+1234", -1);
    text("1234r", 4);
  }

  private static void open() {
    text("!r", -1);
    text("(r)", -1);
    text("!!!!!r", -1);
    text("!!!!!!r", 5);
    text("(((((r)))))", -1);
    text("((((((r))))))", 5);
    text("!!!!!(r)", 5);
    text("(((((!r)))))", 5);
    text("((((!r))))", -1);
    text("((((!(r)))))", 5);
    text("!(!(!r))", -1);
    text("!(!(!(r)))", 5);
    text("!!!!!r+!!!!!r", -1);
    text("!!!!!r+!!!!!!r", 12);
    text("(((((r))))+((((r)))))", -1);
    text("(((((r))))+(((((r))))))", 15);
    text("!!!!r*(((((n)))))%!!!!!s", -1);
    text("(!!!!r+!!!!r)", -1);
    text("(!!!!r+!!!!!r)", 11);
    text("((((r))))|((((((", 15);
  }

  private static void chains() {
    text("1<2", -1);
    text("1<2<3", 3);
    text("1=2=3", 3);
    text("1>2>3", 3);
    text("1=2<3", 3);
    text("1<2&2<3", -1);
    text("1<2&2<3<4", 7);
    text("1<2|2<3", -1);
    text("1<2|2=3>4", 7);
    text("(1<2)<(2<3)", -1);
    text("((1<2<3))", 5);
    text("1+1<1+1", -1);
    text("1+1<1+1=", 7);
    text("!1<2<3", 4);
    text("r|n|s&r&n&s", -1);
    text("r+n-s+r-n", -1);
    text("r*n/s%r*n", -1);
  }

  private static void early() {
    text("", 0);
    for (String sign : "| & < = > + - * / %".split(" ")) {
      text("r" + sign, 2);
      text(sign + "r", 0);
      text("r" + sign + sign + "r", 2);
      text("r" + sign + ")", 2);
    }
    text("!", 1);
    text("(", 1);
    text("(r", 2);
    text("((r)", 4);
    text("()", 1);
    text(")", 0);
    text("r)", 1);
    text("(r))", 3);
    text("(r)(r)", 3);
    text("(r)r", 3);
    text("(r)1", 3);
    text("1!r", 1);
    text("rr", 1);
    text("r r", 1);
    text("r\n", 1);
  }

  private static String long59() {
    StringBuilder text = new StringBuilder("r");
    for (int i = 0; i < 29; i++) {
      text.append("+r");
    }
    return text.toString();
  }

  private static void fullTape() {
    text(long59(), -1);
    text(long59() + "+", 60);
    text(long59() + ")", 59);
    text(long59() + "r", 59);
    text(long59() + "<", 60);
    text("!" + long59(), -1);
    text("(" + long59(), 60);
    text("!".repeat(60), 5);
    text("(".repeat(60), 5);
    text("1".repeat(60), 4);
    GoingAbout x = new GoingAbout();
    due("60 bytes", Due.text(x, 0, "1+1+1+1+1+1+1+1+1+1+1+1+1+1+1+1+1+1+1+1+1+1+1+1+1+1+1+1+9+27"), 1);
    due("28 and 36", x.law(0, 0, 0, 0), 64);
    due("59 bytes", Due.text(x, 0, long59()), 1);
    due("30 times 3", x.law(0, 3, 0, 0), 90);
    due("60 bytes of !!!!!r", Due.text(x, 0, "!!!!!r+!!!!!r+!!!!!r+!!!!!r+!!!!!r+!!!!!r+!!!!!r+!!!!!r+0000"), 1);
    due("eight of these", x.law(0, 0, 0, 0), 8);
    due("none of these", x.law(0, -1, 0, 0), 0);
  }

  /** What stood on THE TAPE ahead is gone, though the TEXT that is read now ends too early. */
  private static void nothingLeft() {
    GoingAbout x = new GoingAbout();
    due("(1)+2", Due.text(x, 0, "(1)+2"), 1);
    due("(1", Due.text(x, 0, "(1"), -12);
    due("(1)+", Due.text(x, 0, "(1)+"), -14);
    due("(", Due.text(x, 0, "("), -11);
    due("none", x.text(0), -10);
    due("stays", x.law(0, 0, 0, 0), 3);
    due("1", Due.text(x, 0, "1"), 1);
    due("in place of it", x.law(0, 0, 0, 0), 1);
    due("untell(0)", x.untell(0), 1);
    due("a FAULT without one ahead", Due.text(x, 0, "+"), -10);
    due("still none", x.untell(0), 0);
  }

  private static void feeds() {
    for (int n = 1; n <= 8; n++) {
      GoingAbout x = new GoingAbout();
      due("feed(.., " + n + ")", x.feed(0x2b312b312b312b31L, n), n);
      due("count(3)", x.count(3), n);
      due("1+1+..", x.text(0), n % 2 == 1 ? 1 : -10 - n);
      due("as many as there are", x.law(0, 77, 0, 0), n % 2 == 1 ? (n + 1) / 2 : 77);
      x = new GoingAbout();
      for (int i = 1; i <= 60 / n; i++) {
        due("feed(.., " + n + ")", x.feed(0L, n), n * i);
      }
      int left = 60 - 60 / n * n;
      if (left > 0) {
        due("the last " + left, x.feed(-1L, left), 60);
      }
      due("one more", x.feed(0L, 1), Due.FULL);
      due("count(3)", x.count(3), 60);
      due("text(2)", x.text(2), Due.BEYOND);
      due("stays", x.count(3), 60);
      due("text(1)", x.text(1), -10);
      due("and may be fed again", x.feed(Long.MIN_VALUE, 8), 8);
    }
    GoingAbout x = new GoingAbout();
    due("the highest byte", x.feed(0x312b312b312b3137L, 8), 8);
    due("71+1+1+1 the lowest first", x.text(0), 1);
    due("is", x.law(0, 0, 0, 0), 74);
  }

  private static void gives(int use, String text, int a, int b, int c, int want) {
    GoingAbout x = new GoingAbout();
    due("text of " + text, Due.text(x, use, text), 1);
    due(text + " of " + a + ", " + b + ", " + c, x.law(use, a, b, c), want);
  }

  private static void held() {
    GoingAbout x = new GoingAbout();
    int[] any = {MIN, -1, 0, 1, 8, 9, 10, 11, 98, 99, 100, 101, MAX};
    for (int a : any) {
      due("law(0, " + a + ", ..)", x.law(0, a, MAX, MIN), Math.max(0, Math.min(99, a)));
      due("law(1, " + a + ", ..)", x.law(1, a, MAX, MIN), Math.max(0, Math.min(9, a)));
      gives(0, "r", a, 1, 2, Math.max(0, Math.min(99, a)));
      gives(0, "n", 1, a, 2, Math.max(0, Math.min(99, a)));
      gives(0, "s", 1, 2, a, Math.max(0, Math.min(99, a)));
      gives(1, "g", a, 1, 2, Math.max(0, Math.min(9, a)));
      gives(1, "n", 1, a, 2, Math.max(0, Math.min(9, a)));
      gives(1, "d", 1, 2, a, Math.max(0, Math.min(9, a)));
    }
  }

  private static void wraps() {
    gives(0, "r+1=n", MAX, MIN, 0, 1);
    gives(0, "r-1=n", MIN, MAX, 0, 1);
    gives(0, "r+n=s", MIN, MIN, 0, 1);
    gives(0, "r-n=s", 0, MIN, MIN, 1);
    gives(0, "r*n=s", MIN, -1, MIN, 1);
    gives(0, "r*n=s", MAX, MAX, 1, 1);
    gives(0, "r*r=n", 65536, 0, 0, 1);
    gives(0, "9999*9999*9999=n", 0, -830416673, 0, 0);
    gives(0, "9999*9999*9999=n", 0, (int) 999700029999L, 0, 1);
    gives(0, "r/n=s", MIN, -1, MIN, 1);
    gives(0, "r%n=s", MIN, -1, 0, 1);
    gives(0, "r/n=s", MIN, MAX, -1, 1);
    gives(0, "r%n=s", MIN, MAX, -1, 1);
    gives(0, "r/n+2", -7, 2, 0, 0);
    gives(0, "r/n+4", -7, 2, 0, 1);
    gives(0, "r/n+4", 7, -2, 0, 1);
    gives(0, "r%n+4", -7, 2, 0, 3);
    gives(0, "r%n+4", 7, -2, 0, 5);
    gives(0, "r/n+4", MIN, 0, 0, 4);
    gives(0, "r%n+4", MAX, 0, 0, 4);
    gives(0, "0/0+0%0+4", 0, 0, 0, 4);
    gives(0, "r<n", MIN, MAX, 0, 1);
    gives(0, "r>n", MAX, MIN, 0, 1);
    gives(0, "r<n", MAX, MIN, 0, 0);
    gives(0, "!r+!n*2", MIN, MAX, 0, 0);
    gives(0, "r&n", MIN, 1, 0, 1);
    gives(0, "r|n", MIN, 0, 0, 1);
    gives(0, "(r|0)+(r&1)+!!r", 77, 0, 0, 3);
  }

  /** | & < = > ! are 1 or 0, and nothing else, which is worked on with. */
  private static void truths() {
    int[] any = {MIN, -1, 0, 1, 2, MAX};
    for (int a : any) {
      gives(0, "5+!r", a, 0, 0, a == 0 ? 6 : 5);
      gives(0, "5+!!r", a, 0, 0, a == 0 ? 5 : 6);
      for (int b : any) {
        gives(0, "5+(r|n)", a, b, 0, a != 0 || b != 0 ? 6 : 5);
        gives(0, "5+(r&n)", a, b, 0, a != 0 && b != 0 ? 6 : 5);
        gives(0, "5+(r<n)", a, b, 0, a < b ? 6 : 5);
        gives(0, "5+(r=n)", a, b, 0, a == b ? 6 : 5);
        gives(0, "5+(r>n)", a, b, 0, a > b ? 6 : 5);
      }
    }
  }

  // ---- 3: what is, what would be

  private static void nearestAndRank() {
    for (int nearest = 0; nearest < 8; nearest++) {
      GoingAbout x = new GoingAbout();
      for (int p = 0; p < 8; p++) {
        x.person(0, p < nearest ? 98 : 99, 0);
      }
      due("nearest(0), least of " + (8 - nearest), x.nearest(0), nearest);
      due("count(2)", x.count(2), nearest);
      due("rank(7)", x.rank(7), 0);
      due("rank(0)", x.rank(0), nearest == 0 ? 0 : 8 - nearest);
    }
    GoingAbout x = eight();
    for (int p = 0; p < 8; p++) {
      due("rank(" + p + ")", x.rank(p), 7 - p);
    }
    GoingAbout zero = Due.with(0, 0, 9, 0, 0, 0);
    due("all 0", zero.nearest(0), 0);
    due("one alone", Due.with(69, 0, 0).nearest(100), 0);
    due("rank of one alone", Due.with(69, 0, 0).rank(0), 0);
    due("settles() of eight", x.settles(), 0);
    due("nearest(1) of eight", x.nearest(1), 7);
    x.shows(0, 9);
    due("nearest(1)", x.nearest(1), 0);
    due("nearest(0)", x.nearest(0), 7);
  }

  /** On DAY 9999 (the rest by 7 is 3) a NEWCOMER takes one who SHOWS 0 to be 5 + 3 near, and so on. */
  private static void beyondLastDay() {
    GoingAbout x = Due.join(Due.onDay(9999), 40, 0, 0, 0, 50, 0);
    Due.text(x, 1, "0");
    int[] near = {50, 8, 9, 10, 11, 5, 6, 7, 8};
    for (int n = 0; n < near.length; n++) {
      due("then(1, " + n + ", 0)", x.then(1, n, 0), near[n]);
      due("nearest(" + n + ")", x.nearest(n), 1);
    }
    due("then(1, 100, 0)", x.then(1, 100, 0), 5 + 10098 % 7);
    due("settles()", x.settles(), Due.NONE);
    Due.sheet(x, 0, 8, 0, 11);
    due("fits(0)", x.fits(0), 4);
    Due.sheet(x, 0, 8, 0, 6);
    due("fits(0)", x.fits(0), 6);
    due("began(0, 20, 0)", x.began(0, 20, 0), 18);
    due("began(0, 19, 0)", x.began(0, 19, 0), 0);
    due("signs(1, 9, 4, 1)", x.signs(1, 9, 4, 1), 0);
    due("DAY", x.count(1), 9999);
  }

  private static void settlesAt() {
    int[][] at = {{99, 0}, {98, 1}, {0, 99}};
    for (int[] row : at) {
      GoingAbout x = Due.with(0, row[0], 0, 0, 99, 0);
      Due.text(x, 0, "n+1");
      due("settles() from " + row[0], x.settles(), row[1]);
    }
    GoingAbout sign = Due.with(0, 50, 0);
    Due.text(sign, 1, "g+1");
    due("settles(), what one alone SHOWS", sign.settles(), 9);
    sign.shows(0, 9);
    due("settles()", sign.settles(), 0);
    due("settles() of nobody", new GoingAbout().settles(), 0);
  }

  /** All but 7 seem 20 near unless they SHOW 3; 7 seems nearest only if showing it, too. */
  private static void signsOfAll() {
    GoingAbout x = Due.with(0, 1, 0, 0, 1, 0, 0, 1, 0, 0, 1, 0, 0, 1, 0, 0, 1, 0, 0, 1, 0, 0, 0, 0);
    Due.text(x, 0, "(s=3)*(n=0)*10+(n=1)*!(s=3)*20");
    due("signs(7, 3, 1, 0)", x.signs(7, 3, 1, 0), 8);
    due("signs(7, 3, 1, 1)", x.signs(7, 3, 1, 1), 255);
    due("signs(6, 3, 1, 0)", x.signs(6, 3, 1, 0), 6);
    due("signs(6, 3, 1, 1)", x.signs(6, 3, 1, 1), 63);
    due("signs(0, 3, 1, 0)", x.signs(0, 3, 1, 0), 0);
    due("signs(0, 3, 1, 1)", x.signs(0, 3, 1, 1), 0);
    due("signs(1, 3, 1, 1)", x.signs(1, 3, 1, 1), 1);
    due("signs(7, 2, 1, 0)", x.signs(7, 2, 1, 0), Due.NONE);
  }

  /** Two others who SHOW 3 seem less near, but so does the last one alone seem nearer: fewer, though a greater set. */
  private static void signsOfFewer() {
    String text = "(n=0)*(10+(s=3)*20)+(n=1)*!(s=3)*20";
    GoingAbout x = Due.with(0, 1, 0, 0, 1, 0, 0, 0, 0);
    Due.text(x, 0, text);
    due("signs(2, 3, 1, 0)", x.signs(2, 3, 1, 0), 1);
    due("signs(2, 3, 1, 1)", x.signs(2, 3, 1, 1), 4);
    GoingAbout first = Due.with(0, 0, 0, 0, 1, 0, 0, 1, 0);
    Due.text(first, 0, text);
    due("signs(0, 3, 1, 1)", first.signs(0, 3, 1, 1), 1);
    GoingAbout asMany = Due.with(0, 1, 0, 0, 0, 0);
    Due.text(asMany, 0, text);
    due("signs(1, 3, 1, 0)", asMany.signs(1, 3, 1, 0), 1);
    due("signs(1, 3, 1, 1), of two sets of one the least", asMany.signs(1, 3, 1, 1), 1);
  }

  /** Of sets as large the least: any one of 0, 1, 2 is enough; n is 1 to 4, a sign 0 to 9. */
  private static void signsOfSome() {
    GoingAbout x = Due.with(0, 50, 1, 0, 50, 1, 0, 50, 1);
    for (int n = 1; n <= 4; n++) {
      for (int sign = 0; sign <= 9; sign++) {
        due("signs(2, " + sign + ", " + n + ", 1)", x.signs(2, sign, n, 1), sign == 0 ? 3 : sign == 1 ? Due.NONE : 4);
        due("signs(1, " + sign + ", " + n + ", 0)", x.signs(1, sign, n, 0), sign == 1 ? Due.NONE : 1);
        due("signs(0, " + sign + ", " + n + ", 0)", x.signs(0, sign, n, 0), 0);
      }
    }
    GoingAbout alone = Due.with(0, 50, 1);
    due("signs of one alone", alone.signs(0, 9, 1, 1), 0);
    GoingAbout either = Due.with(0, 60, 9, 0, 60, 9, 0, 0, 5);
    Due.text(either, 0, "s=9|s=5|s=2");
    due("all of them alike", either.signs(2, 2, 1, 0), Due.NONE);
    due("both others", either.signs(2, 3, 1, 1), 3);
    due("the first one", either.signs(1, 3, 1, 1), 1);
  }

  private static void heardAll() {
    GoingAbout x = eight();
    for (int p = 0; p < 8; p++) {
      due("heard(" + p + ") of oneself", x.heard(p), 1 << p);
    }
    int[] next = {5, 3, 0, 7, 2, 6, 1, 4};
    for (int p = 0; p < 8; p++) {
      x.call(p, next[p]);
    }
    for (int p = 0; p < 8; p++) {
      due("heard(" + p + ") in a round", x.heard(p), 255);
    }
    GoingAbout star = eight();
    for (int p = 1; p < 8; p++) {
      star.call(0, p);
    }
    due("heard(0) by seven CALLS", star.heard(0), 255);
    due("heard(7)", star.heard(7), 128);
  }

  private static void odds() {
    int[][] lowest = {{1, 1}, {6, 7}, {5, 7}, {4, 7}, {3, 7}, {2, 7}, {1, 7}, {0, 1}};
    GoingAbout x = Due.with(0, 20, 3, 0, 0, 0, 0, 0, 0, 0, 0, 0, 0, 0, 0, 0, 0, 0, 0, 0, 0, 0, 0, 0);
    for (int others = 0; others < 8; others++) {
      due("odds(0, 0)", x.odds(0, 0), lowest[others][0]);
      due("odds(0, 1)", x.odds(0, 1), lowest[others][1]);
      if (others < 7) {
        x.become(1 + others, 50);
      }
    }
    int[][] sixth = {{1, 1}, {5, 6}, {2, 3}, {1, 2}, {1, 3}, {1, 6}, {0, 1}};
    GoingAbout six = Due.with(0, 20, 3, 0, 0, 0, 0, 0, 0, 0, 0, 0, 0, 0, 0, 0, 0, 0, 0, 0, 0);
    for (int others = 0; others < 7; others++) {
      due("odds(0, 0) by six", six.odds(0, 0), sixth[others][0]);
      due("odds(0, 1) by six", six.odds(0, 1), sixth[others][1]);
      if (others < 6) {
        six.become(1 + others, 50);
      }
    }
    GoingAbout two = Due.with(0, 30, 3, 0, 99, 9);
    due("as near is not nearer", two.odds(0, 0), 0);
    due("0 is 0 by 1", two.odds(0, 1), 1);
    two.seems(0, 29);
    due("nearer", two.odds(0, 0), 1);
    due("1 by 1", two.odds(0, 1), 1);
    due("99 is never less than taken", two.odds(1, 0), 0);
  }

  private static void began(GoingAbout x, int sheet, int n, int ways, int least) {
    due("began(" + sheet + ", " + n + ", 0)", x.began(sheet, n, 0), ways);
    due("began(" + sheet + ", " + n + ", 1)", x.began(sheet, n, 1), least);
  }

  private static void beganByEight() {
    GoingAbout x = eight();
    x.sheet(3, 8, 0);
    began(x, 3, 0, 72, 1);
    began(x, 3, 20, 72, 1);
    Due.sheet(x, 0, 8, 0, 10, 20, 30, 40, 50, 60, 70);
    began(x, 0, 0, 72, 1);
    began(x, 0, 1, 7, 11);
    x.put(0, 7, 90);
    began(x, 0, 1, 1, 79);
    began(x, 0, 20, 1, 79);
    began(x, 0, 0, 0, Due.NONE);
    x.put(0, 0, 10);
    began(x, 0, 1, 0, Due.NONE);
    x.put(0, 7, 70);
    began(x, 0, 1, 1, 1);
    Due.sheet(x, 1, 16, 0, 10, 20, 30, 40, 50, 60, 70, 0);
    began(x, 1, 0, 0, Due.NONE);
    x.sheet(2, 32, 24);
    began(x, 2, 0, 0, Due.NONE);
    x.shows(3, 0);
    Due.sheet(x, 0, 32, 0, 10, 20, 0, 40, 50, 60, 70);
    began(x, 0, 1, 7 - 1, 11);
    Due.sheet(x, 0, 32, 0, 10, 20, 90, 40, 50, 60, 70);
    began(x, 0, 2, 1, 39);
    GoingAbout nobody = new GoingAbout();
    nobody.sheet(0, 8, 1);
    began(nobody, 0, 20, 0, Due.NONE);
  }

  private static void fitsAt() {
    GoingAbout x = Due.with(0, 0, 1, 0, 99, 1);
    Due.text(x, 0, "n+1");
    for (int near : new int[] {0, 1, 98, 99}) {
      Due.sheet(x, 0, 8, near);
      due("fits(0) by " + near, x.fits(0), near);
      Due.sheet(x, 0, 32, near, 99);
      due("fits(0) by " + near + ", 99", x.fits(0), near);
    }
    Due.sheet(x, 0, 16, 100);
    due("fits(0) by 100", x.fits(0), Due.NONE);
    Due.sheet(x, 0, 32, -1);
    due("fits(0) by -1", x.fits(0), Due.NONE);
    x.sheet(0, 8, 0);
    due("fits(0) without numbers", x.fits(0), 0);
    x.sheet(0, 8, 24);
    due("fits(0), 24 numbers", x.fits(0), Due.NONE);
    Due.sheet(x, 0, 8, 0, 99, 0);
    due("fits(0), one more than PEOPLE", x.fits(0), Due.NONE);
    GoingAbout eight = eight();
    Due.sheet(eight, 2, 32, 0, 10, 20, 30, 40, 50, 60, 70);
    due("fits(2) by eight", eight.fits(2), 0);
    GoingAbout nobody = new GoingAbout();
    nobody.sheet(1, 32, 0);
    due("fits(1), nobody, no numbers", nobody.fits(1), 0);
    nobody.sheet(1, 32, 1);
    due("fits(1), nobody, one number", nobody.fits(1), Due.NONE);
  }

  // ---- 4: voices, sheets

  /** km, number, voice, x, what is answered: ints wrap at each BODY that can make them. */
  private static final int[][] VOICES = {
    {0, 7, 0, MAX, MIN + 6}, {0, 0, 0, MIN, MIN}, {0, 1, 0, -1, 0},
    {0, 0, 1, MAX, -2}, {0, 0, 1, MIN, 0}, {0, 1, 1, MAX, 0},
    {9, 0, 2, 1 << 30, MAX - 8}, {9, 0, 2, 0, -9},
    {0, 1, 3, MIN, MIN}, {0, 1, 3, MAX, MIN + 1}, {9, 0, 3, MAX, MAX / 9}, {9, 0, 3, 8, 0}, {9, 0, 3, 0, 0},
    {9, 0, 3, -8, 0}, {0, 7, 3, 20, -2}, {0, 7, 3, -20, 2}, {0, 7, 3, 6, 0}, {8, 7, 3, MIN, MIN}, {1, 0, 3, MAX, MAX},
    {10, 0, 0, MIN, MAX - 3}, {17, 3, 0, 1, 0}, {10, 0, 1, MIN, -8}, {10, 0, 2, 4, 0},
    {11, 0, 3, MIN, MAX - 5}, {11, 0, 3, 6, 0}, {10, 1, 3, MIN, MAX - 3}, {19, 0, 3, -8, -6},
    {20, 0, 1, 1 << 30, MIN}, {20, 0, 1, 3, -6}, {21, 0, 2, 1 << 30, MAX}, {20, 0, 0, MAX, MAX}, {29, 1, 3, -7, 0},
    {31, 0, 2, MIN, MAX}, {30, 0, 2, MAX, MAX - 1}, {30, 0, 2, -1, 0}, {30, 0, 2, 1, 0}, {39, 0, 2, -3, -11},
    {40, 0, 0, MAX, MAX - 14}, {40, 0, 0, MIN, MIN - 12}, {40, 5, 2, 0, 3}, {40, 7, 2, -3, 7}, {49, 1, 2, 3, -10},
    {41, 0, 3, MIN, MIN - 18}, {40, 0, 1, 1 << 30, MIN - 24},
    {50, 0, 1, MAX, 0}, {50, 0, 1, MAX - 1, 2}, {59, 0, 2, -1, -9}, {50, 7, 1, -8, 0},
    {60, 0, 0, MAX, 9}, {60, 7, 0, MIN, 9}, {69, 0, 1, MAX, 27}, {69, 7, 2, MIN, 18}, {60, 1, 3, MIN, MIN}};

  private static void voices() {
    for (int[] row : VOICES) {
      GoingAbout x = eight();
      x.become(row[1], row[0]);
      due("voice " + row[2] + " of km " + row[0] + ", number " + row[1] + ", of " + row[3],
          x.voice(row[1], row[2], row[3]), row[4]);
      due("told(6)", x.told(6), 0);
    }
  }

  /** m - k from -7 to 9: PARTED at 0 alone, whatever x is. */
  private static void parting() {
    for (int k = 0; k < 8; k++) {
      GoingAbout x = eight();
      int parted = 0;
      for (int m = 0; m <= 9; m++) {
        x.become(k, m);
        due("parts, m " + m + ", k " + k, x.voice(k, 3, 630), m == k ? Due.PARTED : 630 / (m - k));
        due("parts of 0, m " + m + ", k " + k, x.voice(k, 3, 0), m == k ? Due.PARTED : 0);
        parted += m == k ? 2 : 0;
      }
      due("told(6)", x.told(6), parted);
    }
  }

  private static void trace(GoingAbout x, int... bodies) {
    due("count(5)", x.count(5), bodies.length);
    for (int i = 0; i < bodies.length; i++) {
      due("body(" + i + ")", x.body(i), bodies[i]);
    }
    for (int i : new int[] {-1, bodies.length, 29, 30, MAX, MIN}) {
      due("body(" + i + ")", x.body(i), Due.NONE);
    }
  }

  private static void traces() {
    GoingAbout x = Due.with(45, 0, 0);
    trace(x);
    x.voice(0, 2, 0);
    trace(x, 51, 12, 11, 50, 20, 10);
    x.voice(0, 3, 0);
    trace(x, 21, 13, 11, 50, 20, 10);
    x.voice(0, 0, 0);
    trace(x, 50, 20, 10);
    x.become(0, 60);
    trace(x, 50, 20, 10);
    x.voice(0, 0, 0);
    trace(x, 70);
    x.voice(0, 4, 0);
    x.voice(1, 0, 0);
    trace(x, 70);
    x.voice(0, 3, 0);
    trace(x, 13);
    x.restore();
    x.days(1);
    trace(x, 13);
  }

  private static void sheets() {
    GoingAbout x = Due.with(0, 50, 0);
    for (int sheet = 0; sheet < 4; sheet++) {
      for (int bits = 8; bits <= 32; bits *= 2) {
        due("missing", x.nears(sheet), Due.NONE);
        due("sheet of none", x.sheet(sheet, bits, 0), 1);
        due("no number", x.put(sheet, 0, 1), Due.BEYOND);
        due("none of none", x.move(sheet, 0, sheet, 0, 0), 0);
        due("sheet of one", x.sheet(sheet, bits, 1), 1);
        due("one number", x.put(sheet, 0, 1), 1);
        due("no second", x.put(sheet, 1, 1), Due.BEYOND);
        due("sheet of 24", x.sheet(sheet, bits, 24), 1);
        due("the first, 0", x.move(sheet, 23, sheet, 0, 1), 1);
        due("the 24th", x.put(sheet, 23, 77), 1);
        due("no 25th", x.put(sheet, 24, 1), Due.BEYOND);
        due("all of them", x.move(sheet, 0, sheet, 0, 24), 24);
        due("the 24th comes first", x.move(sheet, 23, sheet, 0, 1), 1);
        due("nears", x.nears(sheet), 1);
        due("is 77", x.personIs(0, 2), 77);
        due("all 0 again", x.sheet(sheet, bits, 24), 1);
        due("the 24th", x.move(sheet, 23, sheet, 0, 1), 1);
        due("nears", x.nears(sheet), 1);
        due("is 0", x.personIs(0, 2), 0);
        due("missing again", x.sheet(sheet, 0, bits == 8 ? -1 : bits == 16 ? 25 : MIN), 1);
        due("missing when missing", x.sheet(sheet, 0, MAX), 1);
      }
    }
  }

  /** bits, what is put, what NEAR becomes; below 0: the number is not 0 to 99. */
  private static void lowestBits() {
    int[][] rows = {{8, 99, 99}, {8, 100, -1}, {8, 127, -1}, {8, 128, -1}, {8, 255, -1}, {8, 256, 0}, {8, 355, 99},
      {8, 356, -1}, {8, -1, -1}, {8, -128, -1}, {8, -256, 0}, {8, -157, 99}, {8, -156, -1}, {8, MIN, 0}, {8, MAX, -1},
      {16, 99, 99}, {16, 100, -1}, {16, 255, -1}, {16, 256, -1}, {16, 32767, -1}, {16, 32768, -1}, {16, 65535, -1},
      {16, 65536, 0}, {16, 65635, 99}, {16, 65636, -1}, {16, -1, -1}, {16, -65536, 0}, {16, -65437, 99}, {16, MIN, 0},
      {32, 99, 99}, {32, 100, -1}, {32, 256, -1}, {32, 65536, -1}, {32, MAX, -1}, {32, MIN, -1}, {32, -1, -1},
      {32, 0, 0}, {32, 1 << 24, -1}, {16, 1 << 24, 0}};
    for (int[] row : rows) {
      GoingAbout x = Due.with(0, 50, 0);
      x.sheet(0, row[0], 1);
      due("put(0, 0, " + row[1] + ") of " + row[0] + " bits", x.put(0, 0, row[1]), 1);
      due("nears", x.nears(0), row[2] < 0 ? 0 : 1);
      due("NEAR", x.personIs(0, 2), row[2] < 0 ? 50 : row[2]);
      for (int k = 1; k <= 6; k++) {
        due("no ERROR", x.told(k), 0);
      }
    }
  }

  private static void numbers(GoingAbout x, int sheet, int from, int... want) {
    x.sheet(3, 8, 24);
    x.move(sheet, from, 3, 0, want.length);
    due("nears", x.nears(3), 8);
    for (int i = 0; i < want.length; i++) {
      due("number " + (from + i), x.personIs(i, 2), want[i]);
    }
  }

  private static GoingAbout rowOf24() {
    GoingAbout x = eight();
    x.sheet(0, 8, 24);
    for (int i = 0; i < 24; i++) {
      x.put(0, i, i + 1);
    }
    return x;
  }

  private static void moves() {
    GoingAbout x = rowOf24();
    due("one up", x.move(0, 0, 0, 1, 23), 23);
    numbers(x, 0, 0, 1, 1, 2, 3, 4, 5, 6, 7);
    numbers(x, 0, 16, 16, 17, 18, 19, 20, 21, 22, 23);
    x = rowOf24();
    due("one down", x.move(0, 1, 0, 0, 23), 23);
    numbers(x, 0, 0, 2, 3, 4, 5, 6, 7, 8, 9);
    numbers(x, 0, 16, 18, 19, 20, 21, 22, 23, 24, 24);
    x = rowOf24();
    due("none from the end to the end", x.move(0, 24, 0, 24, 0), 0);
    due("the last to the first", x.move(0, 23, 0, 0, 1), 1);
    due("the first to the last", x.move(0, 1, 0, 23, 1), 1);
    numbers(x, 0, 0, 24, 2, 3);
    numbers(x, 0, 22, 23, 2);
    x.sheet(1, 8, 24);
    due("all 24 to another one", x.move(0, 0, 1, 0, 24), 24);
    numbers(x, 1, 0, 24, 2, 3, 4);
    numbers(x, 1, 20, 21, 22, 23, 2);
    numbers(x, 0, 20, 21, 22, 23, 2);
    x.sheet(2, 8, 0);
    due("none to a SHEET of none", x.move(0, 24, 2, 0, 0), 0);
    due("none of a SHEET of none", x.move(2, 0, 0, 24, 0), 0);
  }

  // ---- what SHEETS and numbers that wait do for eight, and for nobody

  private static void nearsAndJudge() {
    GoingAbout x = eight();
    x.sheet(0, 8, 24);
    due("nears of 24", x.nears(0), 8);
    due("all 0", x.rank(0), 0);
    due("judge of 24", x.judge(0), 1);
    Due.sheet(x, 1, 16, 0, 1, 2, 3, 4, 5, 6, 7);
    due("judge of 8", x.judge(1), 8);
    Due.sheet(x, 1, 16, 0, 1, 2, 3, 4, 5, 6, 7, 0);
    due("judge of 9", x.judge(1), 8);
    due("nears of 9", x.nears(1), 8);
    due("NEAR of 7", x.personIs(7, 2), 7);
    Due.sheet(x, 1, 16, 0, 1, 2, 3, 4, 5, 6, 100);
    due("nears, the last one not", x.nears(1), 7);
    due("NEAR of 7", x.personIs(7, 2), 7);
    Due.sheet(x, 1, 16, 100, 1);
    due("nears, the first one not", x.nears(1), 0);
    x.sheet(2, 32, 0);
    due("nears of none", x.nears(2), 0);
    due("judge of none", x.judge(2), 0);
    GoingAbout silent = Due.with(0, 40, 0, 0, 40, 0);
    silent.sheet(0, 8, 1);
    due("judge of fewer than PEOPLE", silent.judge(0), 1);
    due("nears of fewer than PEOPLE", silent.nears(0), 1);
    due("NEAR of 1", silent.personIs(1, 2), 40);
    GoingAbout nobody = new GoingAbout();
    nobody.sheet(0, 8, 24);
    due("nears for nobody", nobody.nears(0), 0);
    due("judge for nobody", nobody.judge(0), 0);
    GoingAbout held = Due.with(10, 51, 9, 20, 0, 0);
    Due.sheet(held, 0, 8, 9, 0);
    due("judge of what is held", held.judge(0), 2);
    Due.sheet(held, 0, 32, 10, -1);
    due("judge of what is not", held.judge(0), 0);
  }

  private static void waits() {
    GoingAbout x = eight();
    for (int wrong = 0; wrong <= 8; wrong++) {
      for (int p = 0; p < 8; p++) {
        due("tell", x.tell(10 * p + (p == wrong ? 1 : 0)), p + 1);
      }
      due("check(), " + wrong + " not so", x.check(), wrong == 8 ? 0 : 1 + wrong);
      due("none wait", x.count(4), 0);
    }
    for (int p = 0; p < 9; p++) {
      x.tell(10 * p);
    }
    due("a ninth, nobody", x.check(), 9);
    for (int i = 0; i < 24; i++) {
      due("tell", x.tell(i < 8 ? 10 * i : MAX), i + 1);
    }
    due("24 wait", x.count(4), 24);
    due("check() of 24", x.check(), 9);
    due("none wait", x.count(4), 0);
    due("check() of none", x.check(), 0);
    for (int v : new int[] {MIN, MAX, -1, 256, 65536}) {
      due("tell(" + v + ")", x.tell(v), 1);
      due("check()", x.check(), 1);
    }
    GoingAbout nobody = new GoingAbout();
    due("tell", nobody.tell(0), 1);
    due("check(), nobody", nobody.check(), 1);
    due("check()", nobody.check(), 0);
  }

  // ---- images

  private static GoingAbout fullOne() {
    GoingAbout x = eight();
    x.call(7, 0);
    Due.text(x, 0, long59());
    Due.text(x, 1, "9");
    Due.feed(x, long59() + "1");
    for (int i = 0; i < 24; i++) {
      x.tell(i == 0 ? 70 : 10 * i);
    }
    x.seed(MIN);
    x.days(100);
    x.seems(7, 1);
    return x;
  }

  private static void isFull(GoingAbout x) {
    int[] counts = {8, 100, 0, 60, 24};
    for (int what = 0; what < counts.length; what++) {
      due("full: count(" + what + ")", x.count(what), counts[what]);
    }
    due("full: z", x.count(6), MIN);
    due("full: CALLED", x.personIs(7, 4), 1);
    due("full: NEAR", x.personIs(7, 2), 1);
    due("full: SHOWS", x.personIs(7, 3), 9);
    due("full: TAKES", x.law(0, 3, 0, 0), 90);
    due("full: SIGN", x.law(1, 0, 0, 0), 9);
    due("full: a ninth", x.person(0, 0, 0), Due.FULL);
    due("full: a byte more", x.feed(0, 1), Due.FULL);
    due("full: a number more", x.tell(0), Due.FULL);
  }

  private static void isEmpty(GoingAbout x) {
    int[] counts = {0, 0, -1, 0, 0, 0, 1};
    for (int what = 0; what < counts.length; what++) {
      if (what != 5) {
        due("empty: count(" + what + ")", x.count(what), counts[what]);
      }
    }
    due("empty: untell(0)", x.untell(0), 0);
    due("empty: untell(1)", x.untell(1), 0);
    due("empty: check()", x.check(), 0);
    due("empty: personIs(0, 0)", x.personIs(0, 0), Due.BEYOND);
  }

  private static void images() {
    GoingAbout x = new GoingAbout();
    for (int i = 1; i <= 10; i++) {
      due("image()", x.image(), i);
    }
    Due.join(x, 15, 99, 9, 26, 98, 8);
    x.call(0, 1);
    x.call(1, 0);
    Due.text(x, 0, "1");
    Due.text(x, 1, "1");
    Due.feed(x, "12");
    x.tell(3);
    x.seed(5);
    x.days(7);
    due("restore() to the first DAY", x.restore(), 0);
    isEmpty(x);
    due("the first again", x.person(0, 3, 4), 0);
    due("the second again", x.person(0, 3, 4), 1);
    due("CALLED nobody", x.personIs(0, 4), 0);
    due("CALLED nobody", x.personIs(1, 4), 0);
    due("restore()", x.restore(), 0);
    isEmpty(x);
    due("image()", x.image(), 11);
    GoingAbout full = fullOne();
    isFull(full);
    due("image()", full.image(), 1);
    full.text(1);
    full.check();
    full.become(7, 69);
    full.days(1);
    full.untell(0);
    full.call(7, 6);
    due("restore()", full.restore(), 100);
    isFull(full);
    due("restore()", full.restore(), 100);
    due("the first of 24 that wait", full.check(), 1);
    due("60 bytes stand", full.text(0), -69);
    due("restore()", full.restore(), 100);
    due("24 wait again", full.count(4), 24);
    due("image()", full.image(), 2);
  }

  // ---- what is told

  private static void told() {
    GoingAbout x = new GoingAbout();
    for (int i = 0; i < 300; i++) {
      due("told(" + (i % 2 == 0 ? 0 : 7) + ")", x.told(i % 2 == 0 ? 0 : 7), Due.BEYOND);
    }
    due("told(1)", x.told(1), 300);
    for (int i = 0; i < 100; i++) {
      x.restore();
    }
    due("told(2)", x.told(2), 100);
    for (int k = 3; k <= 6; k++) {
      due("told(" + k + ")", x.told(k), 0);
    }
  }

  /** Answers that may be any number are no ERRORS, though they look like one. */
  private static void anyNumber() {
    GoingAbout x = Due.with(0, 0, 0);
    for (int k = 1; k <= 6; k++) {
      int like = Due.LOW - k;
      x.seed(like);
      due("seed()", x.seed(like), like);
      due("count(6)", x.count(6), like);
      due("voice(0, 0, " + like + ")", x.voice(0, 0, like), like);
      x.tell(like);
    }
    for (int k = 1; k <= 6; k++) {
      due("told(" + k + ")", x.told(k), 0);
    }
  }

  /** The least and the most that person, become, shows, seems take. */
  private static void taken() {
    for (int km = 0; km < 70; km++) {
      GoingAbout x = new GoingAbout();
      due("person(" + km + ", 99, 9)", x.person(km, 99, 9), 0);
      due("KIND", x.personIs(0, 0), km / 10);
      due("m", x.personIs(0, 1), km % 10);
      due("m as PERSON", x.as(0, 0), km % 10);
      due("m as its KIND", x.as(0, km / 10), km % 10);
      due("NEAR", x.personIs(0, 2), 99);
      due("SHOWS", x.personIs(0, 3), 9);
      due("become(0, " + (69 - km) + ")", x.become(0, 69 - km), km / 10);
      due("KIND", x.personIs(0, 0), (69 - km) / 10);
      due("m", x.personIs(0, 1), (69 - km) % 10);
      due("seems(0, 0)", x.seems(0, 0), 99);
      due("seems(0, 99)", x.seems(0, 99), 0);
      due("shows(0, 0)", x.shows(0, 0), 9);
      due("shows(0, 9)", x.shows(0, 9), 0);
    }
  }

  public static void main(String[] args) {
    reads();
    tells();
    daysCut();
    allAtOnce();
    calls();
    draws();
    dayOfDays();
    bytes();
    digits();
    open();
    chains();
    early();
    fullTape();
    nothingLeft();
    feeds();
    held();
    wraps();
    truths();
    nearestAndRank();
    beyondLastDay();
    settlesAt();
    signsOfAll();
    signsOfFewer();
    signsOfSome();
    heardAll();
    odds();
    beganByEight();
    fitsAt();
    voices();
    parting();
    traces();
    sheets();
    lowestBits();
    moves();
    nearsAndJudge();
    waits();
    images();
    told();
    anyNumber();
    taken();
    Due.finish();
  }
}
