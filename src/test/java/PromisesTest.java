/** Each promise by itself, with answers worked out by hand from the document. */
public final class PromisesTest {
  private static final int BEYOND = Due.BEYOND;
  private static final int NONE = Due.NONE;
  private static final int STATE = Due.STATE;
  private static final int FULL = Due.FULL;
  private static final int KIND = Due.KIND;
  private static final int PARTED = Due.PARTED;
  private static final int MIN = Integer.MIN_VALUE;
  private static final int MAX = Integer.MAX_VALUE;

  private static void due(String call, long got, long want) {
    Due.due(call, got, want);
  }

  private static void told(String when, GoingAbout x, int... counts) {
    for (int k = 1; k <= 6; k++) {
      due(when + ": told(" + k + ")", x.told(k), counts[k - 1]);
    }
  }

  /** All numbers of one or two of PEOPLE, as an act that answers an ERROR must leave them. */
  private static void stands(String when, GoingAbout x, int person, int... numbers) {
    for (int what = 0; what < 5; what++) {
      due(when + ": personIs(" + person + ", " + what + ")", x.personIs(person, what), numbers[what]);
    }
  }

  private static void newObject() {
    GoingAbout x = new GoingAbout();
    int[] counts = {0, 0, -1, 0, 0, 0, 1};
    for (int what = 0; what < counts.length; what++) {
      due("1: count(" + what + ")", x.count(what), counts[what]);
    }
    told("1", x, 0, 0, 0, 0, 0, 0);
    due("1: untell(0)", x.untell(0), 0);
    due("1: untell(1)", x.untell(1), 0);
    due("1: law(0, 55, 1, 2)", x.law(0, 55, 1, 2), 55);
    due("1: law(1, 5, 1, 2)", x.law(1, 5, 1, 2), 5);
    due("1: check()", x.check(), 0);
    due("1: restore()", x.restore(), NONE);
    due("1: body(0)", x.body(0), NONE);
    for (int sheet = 0; sheet < 4; sheet++) {
      due("1: judge(" + sheet + ")", x.judge(sheet), NONE);
    }
    due("1: personIs(0, 0)", x.personIs(0, 0), BEYOND);
    GoingAbout other = new GoingAbout();
    x.person(0, 1, 2);
    due("1: another object's count(0)", other.count(0), 0);
  }

  private static void person() {
    GoingAbout x = new GoingAbout();
    due("2: km -1", x.person(-1, 0, 0), BEYOND);
    due("2: km 70", x.person(70, 0, 0), BEYOND);
    due("2: near -1", x.person(0, -1, 0), BEYOND);
    due("2: near 100", x.person(0, 100, 0), BEYOND);
    due("2: shows -1", x.person(0, 0, -1), BEYOND);
    due("2: shows 10", x.person(0, 0, 10), BEYOND);
    due("2: km MIN", x.person(MIN, 0, 0), BEYOND);
    due("2: count(0)", x.count(0), 0);
    due("2: first", x.person(69, 99, 9), 0);
    due("2: second", x.person(0, 0, 0), 1);
    stands("2", x, 0, 6, 9, 99, 9, 0);
    stands("2", x, 1, 0, 0, 0, 0, 0);
    for (int i = 2; i < 8; i++) {
      due("2: person", x.person(15, 20 + i, i), i);
    }
    due("2: a ninth", x.person(0, 0, 0), FULL);
    due("2: a ninth, beyond", x.person(0, 0, 10), BEYOND);
    due("2: count(0)", x.count(0), 8);
    stands("2", x, 7, 1, 5, 27, 7, 0);
    told("2", x, 8, 0, 0, 1, 0, 0);
  }

  private static void personIs() {
    GoingAbout x = Due.with(47, 31, 6, 0, 5, 5);
    x.call(0, 1);
    stands("3", x, 0, 4, 7, 31, 6, 2);
    stands("3", x, 1, 0, 0, 31, 5, 0);
    due("3: person 2", x.personIs(2, 0), BEYOND);
    due("3: person -1", x.personIs(-1, 0), BEYOND);
    due("3: person MAX", x.personIs(MAX, 0), BEYOND);
    due("3: what 5", x.personIs(0, 5), BEYOND);
    due("3: what -1", x.personIs(0, -1), BEYOND);
    told("3", x, 5, 0, 0, 0, 0, 0);
  }

  private static void become() {
    GoingAbout x = Due.with(47, 31, 6, 0, 50, 5);
    x.call(0, 1);
    due("4: become(0, 69)", x.become(0, 69), 4);
    stands("4", x, 0, 6, 9, 50, 6, 2);
    due("4: become(0, 0)", x.become(0, 0), 6);
    stands("4", x, 0, 0, 0, 50, 6, 2);
    due("4: become(0, 70)", x.become(0, 70), BEYOND);
    due("4: become(0, -1)", x.become(0, -1), BEYOND);
    due("4: become(2, 0)", x.become(2, 0), BEYOND);
    due("4: become(-1, 0)", x.become(-1, 0), BEYOND);
    stands("4", x, 0, 0, 0, 50, 6, 2);
    told("4", x, 4, 0, 0, 0, 0, 0);
  }

  private static void as() {
    int[][] under = {{0}, {0, 1}, {0, 2}, {0, 3}, {0, 1, 4}, {0, 2, 5}, {0, 6}};
    GoingAbout x = Due.with(0, 0, 0);
    int unlike = 0;
    for (int kind = 0; kind < 7; kind++) {
      x.become(0, 10 * kind + kind + 1);
      for (int as = 0; as < 7; as++) {
        boolean is = false;
        for (int above : under[kind]) {
          is |= above == as;
        }
        due("5: as(0, " + as + ") of KIND " + kind, x.as(0, as), is ? kind + 1 : KIND);
        unlike += is ? 0 : 1;
      }
    }
    due("5: as(0, 7)", x.as(0, 7), BEYOND);
    due("5: as(0, -1)", x.as(0, -1), BEYOND);
    due("5: as(1, 0)", x.as(1, 0), BEYOND);
    due("5: as(-1, 0)", x.as(-1, 0), BEYOND);
    told("5", x, 4, 0, 0, 0, unlike, 0);
  }

  private static void shows() {
    GoingAbout x = Due.with(0, 10, 3);
    due("6: shows(0, 9)", x.shows(0, 9), 3);
    due("6: shows(0, 0)", x.shows(0, 0), 9);
    due("6: shows(0, 10)", x.shows(0, 10), BEYOND);
    due("6: shows(0, -1)", x.shows(0, -1), BEYOND);
    due("6: shows(1, 1)", x.shows(1, 1), BEYOND);
    due("6: shows(-1, 1)", x.shows(-1, 1), BEYOND);
    stands("6", x, 0, 0, 0, 10, 0, 0);
  }

  private static void seems() {
    GoingAbout x = Due.with(0, 10, 3);
    due("7: seems(0, 99)", x.seems(0, 99), 10);
    due("7: seems(0, 0)", x.seems(0, 0), 99);
    due("7: seems(0, 100)", x.seems(0, 100), BEYOND);
    due("7: seems(0, -1)", x.seems(0, -1), BEYOND);
    due("7: seems(1, 1)", x.seems(1, 1), BEYOND);
    due("7: seems(-1, 1)", x.seems(-1, 1), BEYOND);
    stands("7", x, 0, 0, 0, 0, 3, 0);
  }

  private static void taken() {
    GoingAbout x = Due.with(0, 50, 0, 0, 33, 4);
    int[] taken = {40, 40 + 5 + 7, (40 + 33) / 2, 59, 40 + 5 + 7 + 3, 77, 40};
    x.days(1);
    x.days(1);
    x.days(1);
    x.seems(1, 33);
    x.shows(1, 4);
    for (int kind = 0; kind < 7; kind++) {
      x.become(0, 10 * kind + 7);
      due("8: taken by KIND " + kind, x.taken(0, 1), taken[kind]);
    }
    x.shows(1, 0);
    due("8: taken by QUIET, of no sign", x.taken(0, 1), 83);
    x.become(0, 19);
    x.shows(1, 9);
    due("8: held at 99", x.taken(0, 1), 99);
    due("8: taken(0, 0)", x.taken(0, 0), BEYOND);
    due("8: taken(0, 2)", x.taken(0, 2), BEYOND);
    due("8: taken(2, 0)", x.taken(2, 0), BEYOND);
    due("8: taken(-1, 0)", x.taken(-1, 0), BEYOND);
    due("8: text", Due.text(x, 0, "r-n*2+s"), 1);
    x.become(0, 0);
    due("8: by a TEXT", x.taken(0, 1), 90 - 66 + 9);
    x.seems(1, 99);
    due("8: held at 0", x.taken(0, 1), 0);
    x.days(4);
    x.untell(0);
    x.become(0, 40);
    x.shows(1, 1);
    due("8: NEWCOMER on DAY 7", x.taken(0, 1), 15);
  }

  private static void call() {
    GoingAbout x = Due.with(0, 10, 1, 0, 80, 2, 0, 30, 3);
    due("9: call(0, 1)", x.call(0, 1), 80);
    stands("9", x, 0, 0, 0, 80, 1, 2);
    stands("9", x, 1, 0, 0, 80, 2, 0);
    due("9: call(0, 2)", x.call(0, 2), 80);
    stands("9", x, 0, 0, 0, 80, 1, 6);
    stands("9", x, 2, 0, 0, 80, 3, 0);
    x.seems(0, 5);
    due("9: call(0, 1) again", x.call(0, 1), 80);
    stands("9", x, 0, 0, 0, 80, 1, 6);
    due("9: call(0, 0)", x.call(0, 0), BEYOND);
    due("9: call(0, 3)", x.call(0, 3), BEYOND);
    due("9: call(3, 0)", x.call(3, 0), BEYOND);
    due("9: call(-1, 0)", x.call(-1, 0), BEYOND);
    stands("9", x, 0, 0, 0, 80, 1, 6);
  }

  private static void feed() {
    GoingAbout x = new GoingAbout();
    due("10: n 0", x.feed(1, 0), BEYOND);
    due("10: n 9", x.feed(1, 9), BEYOND);
    due("10: n -1", x.feed(1, -1), BEYOND);
    due("10: count(3)", x.count(3), 0);
    due("10: 8 bytes", x.feed(0x3837363534333231L, 8), 8);
    due("10: the fifth digit is the FAULT", x.text(0), -14);
    due("10: lowest first", x.feed(0x7777777773722a6eL, 3), 3);
    due("10: text", x.text(0), 1);
    due("10: n*r", x.law(0, 5, 6, 7), 30);
    for (int i = 1; i <= 7; i++) {
      due("10: feed", x.feed(0, 8), 8 * i);
    }
    due("10: 5 more than 60", x.feed(0, 5), FULL);
    due("10: 4 more", x.feed(0, 4), 60);
    due("10: 1 more", x.feed(0, 1), FULL);
    due("10: 0 more", x.feed(0, 0), BEYOND);
    due("10: count(3)", x.count(3), 60);
    due("10: whole", x.text(0), -10);
    due("10: high bytes", x.feed(-1L, 8), 8);
    due("10: high bytes are the FAULT", x.text(0), -10);
    due("10: feed 2", x.feed(0x2b31, 2), 2);
    due("10: on what is there", x.feed(0x32, 1), 3);
    due("10: 1+2", x.text(0), 1);
    due("10: is 3", x.law(0, 0, 0, 0), 3);
    told("10", x, 4, 0, 0, 2, 0, 0);
  }

  private static void text() {
    GoingAbout x = new GoingAbout();
    String[] faulty = {"", "1+", "(1", "1)", "()", "12345", "1 2", " 1", "1<2<3", "1=2>3", "g", "r+d", "rn", "1r", "r1",
      "1++2", "-1", "!", "!!", "((((((1))))))", "!!!!!!1", "!(!(!(1)))", "(1))", "1|", "|1", "1&&2", "R", "1<2=3",
      "(1<2<3)", "1*/2", "12345+1", "1+00000", "!)"};
    int[] places = {0, 2, 2, 1, 1, 4, 1, 0, 3, 3, 0, 2, 1, 1, 1,
      2, 0, 1, 2, 5, 5, 5, 3, 2, 0, 2, 0, 3,
      4, 2, 4, 6, 1};
    due("11: first", Due.text(x, 0, "7"), 1);
    for (int i = 0; i < faulty.length; i++) {
      due("11: text of " + faulty[i], Due.text(x, 0, faulty[i]), -10 - places[i]);
      due("11: THE TAPE is empty", x.count(3), 0);
      due("11: the one ahead stays", x.law(0, 1, 2, 3), 7);
    }
    told("11", x, 0, 0, 0, 0, 0, 0);
    String[] fine = {"0", "9999", "0000", "((((((r))))))".substring(1, 12), "!!!!!r", "!(!(!r))", "1<2|3<4&5=6", "(1<2)<3",
      "r+n-s*1/2%3", "!r*!(n)", "(((((1)))))+(((((1)))))"};
    for (String text : fine) {
      due("11: text of " + text, Due.text(x, 0, text), 1);
      due("11: THE TAPE is empty", x.count(3), 0);
    }
    due("11: names of SIGN", Due.text(x, 1, "g+n+d"), 1);
    due("11: r is none of SIGN", Due.text(x, 1, "g+r"), -12);
    due("11: s is none of SIGN", Due.text(x, 1, "s"), -10);
    Due.feed(x, "12");
    due("11: use 2", x.text(2), BEYOND);
    due("11: use -1", x.text(-1), BEYOND);
    due("11: THE TAPE stays", x.count(3), 2);
    due("11: and is read", x.text(1), 1);
    due("11: as SIGN, held", x.law(1, 0, 0, 0), 9);
    String full = "1+1+1+1+1+1+1+1+1+1+1+1+1+1+1+1+1+1+1+1+1+1+1+1+1+1+1+1+1+1";
    due("11: 59 bytes", Due.text(x, 0, full), 1);
    due("11: are 30", x.law(0, 0, 0, 0), 30);
    due("11: 60 bytes", Due.text(x, 0, full + "2"), 1);
    due("11: are 41", x.law(0, 0, 0, 0), 41);
    due("11: 60 bytes that end too early", Due.text(x, 0, full + "+"), -70);
    String deep = "n|n&n<n*(n|n&n<n*(n|n&n<n*(n|n&n<n*(n|n&n<n*(n|n&n<n";
    due("11: deepest, cut off", Due.text(x, 0, deep), -10 - deep.length());
    due("11: deepest", Due.text(x, 0, deep + ")))))"), 1);
  }

  private static void untell() {
    GoingAbout x = new GoingAbout();
    Due.text(x, 0, "7");
    Due.text(x, 1, "3");
    due("12: untell(0)", x.untell(0), 1);
    due("12: no TEXT of TAKES", x.law(0, 50, 0, 0), 50);
    due("12: SIGN's stays", x.law(1, 0, 0, 0), 3);
    due("12: untell(0) again", x.untell(0), 0);
    due("12: untell(1)", x.untell(1), 1);
    due("12: untell(2)", x.untell(2), BEYOND);
    due("12: untell(-1)", x.untell(-1), BEYOND);
    told("12", x, 2, 0, 0, 0, 0, 0);
  }

  private static void works(GoingAbout x, String text, int a, int b, int c, int want) {
    due("13: text of " + text, Due.text(x, 0, text), 1);
    due("13: " + text + " of " + a + ", " + b + ", " + c, x.law(0, a, b, c), want);
  }

  private static void law() {
    GoingAbout x = new GoingAbout();
    due("13: free", x.law(0, 98, 1, 2), 98);
    due("13: held", x.law(0, 100, 1, 2), 99);
    due("13: held below", x.law(0, MIN, 1, 2), 0);
    due("13: SIGN free", x.law(1, 8, 1, 2), 8);
    due("13: SIGN held", x.law(1, MAX, 1, 2), 9);
    due("13: SIGN held below", x.law(1, -1, 1, 2), 0);
    works(x, "r", 4, 5, 6, 4);
    works(x, "n", 4, 5, 6, 5);
    works(x, "s", 4, 5, 6, 6);
    works(x, "1+2*3", 0, 0, 0, 7);
    works(x, "(1+2)*3", 0, 0, 0, 9);
    works(x, "9-4-3", 0, 0, 0, 2);
    works(x, "90/7/2", 0, 0, 0, 6);
    works(x, "90%7*2", 0, 0, 0, 12);
    works(x, "2*17%5", 0, 0, 0, 4);
    works(x, "10+r/n", -7, 2, 0, 7);
    works(x, "10+r%n", -7, 2, 0, 9);
    works(x, "r/0+r%0+1", 7, 0, 0, 1);
    works(x, "50+r/n", 7, 0, 0, 50);
    works(x, "r/n<0", MIN, -1, 0, 1);
    works(x, "r%n", MIN, -1, 0, 0);
    works(x, "r+1<r", MAX, 0, 0, 1);
    works(x, "r*2", MIN + 21, 0, 0, 42);
    works(x, "r-1>r", MIN, 0, 0, 1);
    works(x, "r<n", 1, 2, 0, 1);
    works(x, "r<n", 2, 2, 0, 0);
    works(x, "r>n", 3, 2, 0, 1);
    works(x, "r>n", 2, 2, 0, 0);
    works(x, "r=n", 2, 2, 0, 1);
    works(x, "r=n", 2, 3, 0, 0);
    works(x, "r&n", 5, 2, 0, 1);
    works(x, "r&n", 5, 0, 0, 0);
    works(x, "r&n", 0, 5, 0, 0);
    works(x, "r|n", 5, 0, 0, 1);
    works(x, "r|n", 0, -5, 0, 1);
    works(x, "r|n", 0, 0, 0, 0);
    works(x, "!r", 0, 0, 0, 1);
    works(x, "!r", -3, 0, 0, 0);
    works(x, "!!r", -3, 0, 0, 1);
    works(x, "!r+5", 0, 0, 0, 6);
    works(x, "1|0&0", 0, 0, 0, 1);
    works(x, "0&0|1", 0, 0, 0, 1);
    works(x, "5<3+4", 0, 0, 0, 1);
    works(x, "2&3=3", 0, 0, 0, 1);
    works(x, "2+3&0", 0, 0, 0, 0);
    works(x, "0099", 0, 0, 0, 99);
    works(x, "9999/101", 0, 0, 0, 99);
    works(x, "100", 0, 0, 0, 99);
    works(x, "0-1", 0, 0, 0, 0);
    due("13: names of SIGN", Due.text(x, 1, "g*4+n*2+d"), 1);
    due("13: g", x.law(1, 2, 0, 0), 8);
    due("13: n", x.law(1, 0, 3, 0), 6);
    due("13: d", x.law(1, 0, 0, 5), 5);
    due("13: use 2", x.law(2, 0, 0, 0), BEYOND);
    due("13: use -1", x.law(-1, 0, 0, 0), BEYOND);
    told("13", x, 2, 0, 0, 0, 0, 0);
  }

  private static void days() {
    GoingAbout x = Due.with(0, 10, 3, 0, 20, 5, 30, 30, 0);
    due("14: days(1)", x.days(1), 1);
    stands("14", x, 0, 0, 0, (30 + 69) / 2, 3, 0);
    stands("14", x, 1, 0, 0, 49, 5, 0);
    stands("14", x, 2, 3, 0, 0, 0, 0);
    due("14: days(0)", x.days(0), BEYOND);
    due("14: days(101)", x.days(101), BEYOND);
    due("14: days(-1)", x.days(-1), BEYOND);
    due("14: count(1)", x.count(1), 1);
    due("14: days(100)", x.days(100), 101);
    GoingAbout empty = new GoingAbout();
    for (int i = 1; i <= 99; i++) {
      empty.days(100);
    }
    due("14: 9900", empty.count(1), 9900);
    due("14: days(100)", empty.days(100), STATE);
    due("14: days(101)", empty.days(101), BEYOND);
    due("14: days(99)", empty.days(99), 9999);
    due("14: days(1)", empty.days(1), STATE);
    due("14: count(1)", empty.count(1), 9999);
    told("14", empty, 1, 0, 2, 0, 0, 0);
    signsOfADay();
  }

  /** What each KIND shows a day on, for NEAR and SHOWS as told; one alone stays as near. */
  private static void signsOfADay() {
    int[][] shown = {
      {0, 51, 4, 0, 4}, {10, 51, 4, 0, 5}, {10, 50, 4, 0, 4}, {10, 51, 9, 0, 9}, {20, 51, 4, 0, 3}, {20, 51, 0, 0, 0},
      {30, 51, 4, 0, 4}, {40, 51, 4, 0, 6}, {40, 50, 4, 0, 5}, {40, 50, 4, 1, 4}, {40, 51, 4, 2, 5}, {40, 51, 4, 3, 6},
      {50, 58, 4, 0, 5}, {50, 50, 4, 0, 5}, {50, 9, 4, 0, 0}, {59, 99, 4, 0, 9}, {60, 51, 4, 0, 0}};
    for (int[] one : shown) {
      GoingAbout x = new GoingAbout();
      if (one[3] > 0) {
        x.days(one[3]);
      }
      x.person(one[0], one[1], one[2]);
      x.days(1);
      stands("14: of km " + one[0], x, 0, one[0] / 10, one[0] % 10, one[1], one[4], 0);
    }
    GoingAbout x = Due.with(0, 60, 2, 0, 30, 3);
    Due.text(x, 1, "g+n/30+d");
    x.days(1);
    stands("14: by a TEXT", x, 0, 0, 0, 20, 4, 0);
    stands("14: by a TEXT", x, 1, 0, 0, 30, 4, 0);
    x.days(6);
    x.shows(0, 1);
    x.seems(0, 0);
    x.days(1);
    due("14: d is 0 on DAY 7", x.personIs(0, 3), 1);
  }

  private static void loose() {
    GoingAbout x = new GoingAbout();
    due("15: loose(0)", x.loose(0), BEYOND);
    due("15: loose(31)", x.loose(31), BEYOND);
    due("15: loose(30)", x.loose(30), -1);
    due("15: DAY", x.count(1), 30);
    due("15: no draws", x.count(6), 1);
    x.person(0, 40, 4);
    due("15: one alone", x.loose(1), 0);
    due("15: no draws", x.count(6), 1);
    for (int z : new int[] {1, 0, -1, -5, 77, MIN, MAX}) {
      drawn(z, 0, 40, 4, 0, 10, 1);
      drawn(z, 0, 40, 4, 0, 10, 1, 40, 77, 2);
      drawn(z, 10, 40, 4, 23, 10, 1, 40, 77, 2, 60, 5, 0, 32, 99, 9, 51, 0, 8, 0, 50, 3, 0, 1, 7);
    }
    GoingAbout late = new GoingAbout();
    for (int i = 1; i <= 99; i++) {
      late.days(100);
    }
    late.days(70);
    due("15: loose(30)", late.loose(30), STATE);
    due("15: loose(31)", late.loose(31), BEYOND);
    due("15: loose(29)", late.loose(29), -1);
    due("15: DAY", late.count(1), 9999);
    due("15: loose(1)", late.loose(1), STATE);
    told("15", late, 1, 0, 2, 0, 0, 0);
  }

  /** The same draws made by hand, by shows() and call() and days(1), on another object alike. */
  private static void drawn(int from, int... people) {
    GoingAbout byHand = Due.with(people);
    GoingAbout x = Due.with(people);
    x.seed(from);
    int there = people.length / 3;
    int z = from;
    for (int day = 1; day <= 8; day++) {
      int[] draws = new int[4];
      for (int k = 0; k < 4; k++) {
        z = z * 1103515245 + 12345;
        draws[k] = z >>> 8;
      }
      byHand.shows(draws[0] % there, draws[1] % 10);
      if (draws[2] % there != draws[3] % there) {
        byHand.call(draws[2] % there, draws[3] % there);
      }
      byHand.days(1);
      due("15: loose(1)", x.loose(1), byHand.count(2));
      for (int k = 0; k < 5 * there; k++) {
        due("15: personIs(" + k / 5 + ", " + k % 5 + ")", x.personIs(k / 5, k % 5), byHand.personIs(k / 5, k % 5));
      }
      due("15: z", x.count(6), z);
      due("15: DAY", x.count(1), day);
    }
  }

  private static void seed() {
    GoingAbout x = Due.with(0, 1, 1, 0, 2, 2);
    due("16: seed(77)", x.seed(77), 1);
    due("16: seed(MIN)", x.seed(MIN), 77);
    due("16: z", x.count(6), MIN);
    due("16: seed(LOW - 1)", x.seed(BEYOND), MIN);
    due("16: seed(0)", x.seed(0), BEYOND);
    x.loose(1);
    due("16: z after four draws", x.count(6), (((12345 * 1103515245 + 12345) * 1103515245) + 12345) * 1103515245 + 12345);
    told("16", x, 0, 0, 0, 0, 0, 0);
  }

  private static void nearest() {
    GoingAbout x = new GoingAbout();
    due("17: nearest(0)", x.nearest(0), STATE);
    due("17: nearest(101)", x.nearest(101), BEYOND);
    due("17: nearest(-1)", x.nearest(-1), BEYOND);
    x.person(0, 10, 3);
    x.person(0, 80, 5);
    x.person(0, 80, 6);
    due("17: of several the least", x.nearest(0), 1);
    due("17: a DAY on", x.nearest(1), 2);
    due("17: 100 DAYS on", x.nearest(100), 2);
    due("17: only thought", x.count(1), 0);
    stands("17", x, 1, 0, 0, 80, 5, 0);
    told("17", x, 2, 0, 1, 0, 0, 0);
  }

  private static void then() {
    GoingAbout x = Due.with(0, 10, 3, 0, 20, 5);
    Due.text(x, 1, "g+1");
    due("18: now", x.then(0, 0, 0), 10);
    due("18: now", x.then(0, 0, 1), 3);
    due("18: a DAY on", x.then(0, 1, 0), 30);
    due("18: a DAY on", x.then(0, 1, 1), 4);
    due("18: 2 DAYS on", x.then(0, 2, 0), 40);
    due("18: 100 DAYS on", x.then(1, 100, 1), 9);
    due("18: person 2", x.then(2, 0, 0), BEYOND);
    due("18: person -1", x.then(-1, 0, 0), BEYOND);
    due("18: n -1", x.then(0, -1, 0), BEYOND);
    due("18: n 101", x.then(0, 101, 0), BEYOND);
    due("18: what 2", x.then(0, 0, 2), BEYOND);
    due("18: what -1", x.then(0, 0, -1), BEYOND);
    stands("18", x, 0, 0, 0, 10, 3, 0);
    due("18: DAY", x.count(1), 0);
    for (int i = 1; i <= 99; i++) {
      x.days(100);
    }
    x.days(99);
    Due.text(x, 1, "d");
    due("18: beyond 9999", x.then(0, 1, 1), 3);
    due("18: beyond 9999", x.then(0, 2, 1), 4);
    due("18: 100 beyond 9999", x.then(0, 100, 1), 4);
    told("18", x, 6, 0, 0, 0, 0, 0);
  }

  private static void settles() {
    due("19: nobody", new GoingAbout().settles(), 0);
    due("19: one", Due.with(0, 10, 3).settles(), 0);
    GoingAbout x = Due.with(0, 10, 3, 0, 20, 5);
    due("19: two", x.settles(), 1);
    x.days(1);
    due("19: a day later", x.settles(), 0);
    Due.text(x, 1, "g+1");
    due("19: as signs rise to 9", x.settles(), 7);
    Due.text(x, 1, "g");
    Due.text(x, 0, "n+1");
    due("19: as NEAR rises to 99", x.settles(), 69);
    x.seems(0, 0);
    due("19: by 99", x.settles(), 99);
    due("19: only thought", x.personIs(0, 2), 0);
    Due.text(x, 0, "50-n");
    due("19: never", x.settles(), NONE);
    Due.text(x, 0, "r");
    Due.text(x, 1, "d");
    due("19: never, as signs go on", x.settles(), NONE);
    told("19", x, 0, 2, 0, 0, 0, 0);
    settlesLate();
  }

  /** NEAR rises by one a DAY, and what is shown changes a DAY after NEAR came to 99. */
  private static void settlesLate() {
    GoingAbout x = Due.with(20, 1, 9, 20, 0, 9);
    Due.text(x, 0, "n+(n<99)");
    Due.text(x, 1, "9-(n>98)");
    due("19: behind 100 DAYS", x.settles(), 100);
    due("19: behind 100 DAYS, then", x.then(1, 100, 1), 8);
    x.seems(0, 0);
    due("19: behind 100 DAYS", x.settles(), 100);
    Due.text(x, 1, "9-(n>98)*(g+1)");
    due("19: not by 100", x.settles(), NONE);
  }

  private static void rank() {
    GoingAbout x = Due.with(0, 10, 3, 0, 80, 5, 0, 80, 0, 0, 99, 0);
    due("20: rank(0)", x.rank(0), 3);
    due("20: rank(1)", x.rank(1), 1);
    due("20: rank(2)", x.rank(2), 1);
    due("20: rank(3)", x.rank(3), 0);
    due("20: rank(4)", x.rank(4), BEYOND);
    due("20: rank(-1)", x.rank(-1), BEYOND);
    x.seems(0, 81);
    due("20: behind the first", x.rank(1), 2);
    due("20: behind one", x.rank(0), 1);
    told("20", x, 2, 0, 0, 0, 0, 0);
  }

  private static void signs() {
    GoingAbout x = Due.with(0, 0, 5, 0, 0, 5, 0, 0, 5);
    signs(x, 0, 9, 1, 0);
    signs(x, 1, 9, 1, 2);
    signs(x, 2, 9, 4, 4);
    signs(x, 2, 0, 1, 3);
    signs(x, 0, 0, 1, 0);
    signs(x, 2, 5, 1, NONE);
    stands("21", x, 2, 0, 0, 0, 5, 0);
    due("21: person 3", x.signs(3, 0, 1, 0), BEYOND);
    due("21: person -1", x.signs(-1, 0, 1, 0), BEYOND);
    due("21: sign 10", x.signs(0, 10, 1, 0), BEYOND);
    due("21: sign -1", x.signs(0, -1, 1, 0), BEYOND);
    due("21: n 0", x.signs(0, 0, 0, 0), BEYOND);
    due("21: n 5", x.signs(0, 0, 5, 0), BEYOND);
    due("21: what 2", x.signs(0, 0, 1, 2), BEYOND);
    due("21: what -1", x.signs(0, 0, 1, -1), BEYOND);
    told("21", x, 8, 2, 0, 0, 0, 0);
    GoingAbout y = Due.with(0, 60, 9, 0, 90, 5);
    Due.text(y, 0, "s*n/10");
    signs(y, 1, 7, 1, 1);
    GoingAbout z = Due.with(0, 90, 5, 0, 60, 9, 0, 0, 0);
    Due.text(z, 0, "s*n/10");
    signs(z, 0, 7, 1, 1);
    GoingAbout all = Due.with(0, 0, 1, 0, 0, 1, 0, 0, 1, 0, 0, 1, 0, 0, 1, 0, 0, 1, 0, 0, 1, 0, 0, 1);
    signs(all, 7, 0, 2, 127);
  }

  private static void signs(GoingAbout x, int person, int sign, int n, int set) {
    String call = "21: signs(" + person + ", " + sign + ", " + n + ", ";
    due(call + "0)", x.signs(person, sign, n, 0), set < 0 ? set : Integer.bitCount(set));
    due(call + "1)", x.signs(person, sign, n, 1), set);
  }

  private static void heard() {
    GoingAbout x = Due.with(0, 0, 0, 0, 0, 0, 0, 0, 0, 0, 0, 0, 0, 0, 0, 0, 0, 0, 0, 0, 0, 0, 0, 0);
    due("22: nobody else", x.heard(3), 8);
    for (int one = 7; one > 0; one--) {
      x.call(one, one - 1);
    }
    due("22: a chain downward", x.heard(7), 255);
    due("22: from its midst", x.heard(4), 31);
    due("22: from its end", x.heard(0), 1);
    GoingAbout y = Due.with(0, 0, 0, 0, 0, 0, 0, 0, 0, 0, 0, 0, 0, 0, 0, 0, 0, 0, 0, 0, 0, 0, 0, 0);
    for (int one = 0; one < 7; one++) {
      y.call(one, one + 1);
    }
    due("22: a chain upward", y.heard(0), 255);
    due("22: from its midst", y.heard(5), 224);
    y.call(7, 5);
    due("22: a round", y.heard(6), 224);
    due("22: heard(8)", y.heard(8), BEYOND);
    due("22: heard(-1)", y.heard(-1), BEYOND);
    told("22", y, 2, 0, 0, 0, 0, 0);
  }

  private static void odds(GoingAbout x, int person, int above, int below) {
    due("23: odds(" + person + ", 0)", x.odds(person, 0), above);
    due("23: odds(" + person + ", 1)", x.odds(person, 1), below);
  }

  private static void odds() {
    GoingAbout x = Due.with(0, 40, 4);
    due("23: nobody else", x.odds(0, 0), STATE);
    due("23: person 1", x.odds(1, 0), BEYOND);
    due("23: person -1", x.odds(-1, 0), BEYOND);
    due("23: part 2", x.odds(0, 2), BEYOND);
    due("23: part -1", x.odds(0, -1), BEYOND);
    x.person(10, 0, 0);
    odds(x, 0, 1, 1);
    x.person(0, 0, 0);
    odds(x, 0, 1, 2);
    x.person(0, 0, 0);
    odds(x, 0, 1, 3);
    x.person(10, 0, 0);
    odds(x, 0, 1, 2);
    odds(x, 4, 1, 4);
    x.become(0, 11);
    odds(x, 4, 1, 2);
    x.become(0, 0);
    x.seems(0, 45);
    odds(x, 0, 0, 1);
    x.seems(0, 44);
    x.person(19, 0, 0);
    x.person(19, 0, 0);
    odds(x, 0, 2, 3);
    Due.text(x, 0, "44");
    odds(x, 0, 0, 1);
    Due.text(x, 0, "45");
    odds(x, 0, 1, 1);
    told("23", x, 4, 0, 1, 0, 0, 0);
  }

  private static void began(GoingAbout x, int sheet, int n, int ways, int least) {
    String call = "24: began(" + sheet + ", " + n + ", ";
    due(call + "0)", x.began(sheet, n, 0), ways);
    due(call + "1)", x.began(sheet, n, 1), least);
  }

  private static void began() {
    GoingAbout x = Due.with(0, 10, 3, 0, 20, 5);
    due("24: missing", x.began(0, 1, 0), NONE);
    due("24: sheet 4", x.began(4, 1, 0), BEYOND);
    due("24: sheet -1", x.began(-1, 1, 0), BEYOND);
    due("24: n -1", x.began(0, -1, 0), BEYOND);
    due("24: n 21", x.began(0, 21, 0), BEYOND);
    due("24: what 2", x.began(0, 1, 2), BEYOND);
    due("24: what -1", x.began(0, 1, -1), BEYOND);
    told("24", x, 6, 1, 0, 0, 0, 0);
    Due.sheet(x, 0, 8, 30, 90);
    began(x, 0, 1, 1, 19);
    began(x, 0, 20, 1, 19);
    began(x, 0, 0, 0, NONE);
    Due.sheet(x, 0, 16, 30, 50);
    began(x, 0, 1, 2, 3);
    Due.sheet(x, 0, 32, 10, 20);
    began(x, 0, 0, 18, 1);
    Due.sheet(x, 0, 32, 40, 60);
    began(x, 0, 1, 0, NONE);
    Due.sheet(x, 0, 32, 0, 50);
    began(x, 0, 1, 0, NONE);
    Due.sheet(x, 0, 32, 30);
    began(x, 0, 1, 10, 3);
    Due.sheet(x, 1, 32);
    began(x, 1, 1, 18, 1);
    Due.sheet(x, 1, 32, 30, 50, 0);
    began(x, 1, 1, 0, NONE);
    stands("24", x, 0, 0, 0, 10, 3, 0);
    GoingAbout empty = new GoingAbout();
    empty.sheet(2, 8, 0);
    began(empty, 2, 0, 0, NONE);
  }

  private static void fits() {
    GoingAbout x = Due.with(0, 10, 3, 0, 20, 5);
    due("25: sheet 4", x.fits(4), BEYOND);
    due("25: sheet -1", x.fits(-1), BEYOND);
    due("25: missing", x.fits(0), NONE);
    Due.sheet(x, 0, 8, 10, 20);
    due("25: now", x.fits(0), 0);
    Due.sheet(x, 0, 16, 30, 50);
    due("25: a DAY on", x.fits(0), 1);
    Due.sheet(x, 0, 32, 30, 51);
    due("25: never", x.fits(0), NONE);
    Due.sheet(x, 0, 32, 10, 20, 0);
    due("25: more numbers than PEOPLE", x.fits(0), NONE);
    Due.sheet(x, 0, 32);
    due("25: no numbers", x.fits(0), 0);
    Due.sheet(x, 0, 32, 286, 20);
    due("25: no byte", x.fits(0), NONE);
    Due.text(x, 0, "n+1");
    Due.sheet(x, 0, 8, 99, 99);
    due("25: 89 DAYS on", x.fits(0), 89);
    Due.text(x, 0, "(n+1)%100");
    Due.sheet(x, 0, 8, 9, 19);
    due("25: 99 DAYS on", x.fits(0), 99);
    x.seems(1, 21);
    Due.text(x, 0, "(n+1)%101%99");
    due("25: not by 100", x.fits(0), NONE);
    hundredDaysOn();
    stands("25", x, 0, 0, 0, 10, 3, 0);
    told("25", x, 2, 5, 0, 0, 0, 0);
  }

  /** NEAR rises by one, but stands still on one DAY: 99 comes 100 DAYS on; then 101, never. */
  private static void hundredDaysOn() {
    GoingAbout x = Due.with(0, 0, 1, 0, 0, 1);
    Due.text(x, 0, "n+(s>0|n>5)");
    Due.text(x, 1, "g|n");
    Due.sheet(x, 0, 8, 99, 99);
    due("25: 99 DAYS on", x.fits(0), 99);
    x.shows(0, 0);
    x.shows(1, 0);
    Due.text(x, 1, "1");
    due("25: 100 DAYS on", x.fits(0), 100);
    Due.text(x, 1, "n<1&d");
    due("25: never", x.fits(0), NONE);
    Due.text(x, 1, "d");
    due("25: 101 DAYS on, too late", x.fits(0), NONE);
  }

  private static void trace(String when, GoingAbout x, int... bodies) {
    due(when + ": count(5)", x.count(5), bodies.length);
    for (int i = 0; i < bodies.length; i++) {
      due(when + ": body(" + i + ")", x.body(i), bodies[i]);
    }
    due(when + ": body(" + bodies.length + ")", x.body(bodies.length), NONE);
  }

  private static void voice() {
    int[][] answers = {{19, 38, 33, 5}, {15, 30, 25, 3}, {19, -38, -43, 5}, {19, 38, 15, 5}, {45, 90, 87, -1},
      {19, -40, -45, 5}, {9, 23, 18, 5}};
    int[][] traces = {{10}, {11, 10}, {12, 11, 10}, {13},
      {20, 10}, {11, 20, 10}, {12, 11, 20, 10}, {21, 13, 11, 20, 10},
      {10}, {30, 11, 10}, {12, 30, 11, 10}, {13},
      {10}, {11, 10}, {40, 12, 11, 10}, {13},
      {50, 20, 10}, {11, 50, 20, 10}, {51, 12, 11, 50, 20, 10}, {21, 13, 11, 50, 20, 10},
      {10}, {60, 30, 11, 10}, {12, 60, 30, 11, 10}, {13},
      {70}, {71, 11, 70}, {12, 71, 11, 70}, {13}};
    GoingAbout x = Due.with(0, 0, 0, 0, 0, 0, 0, 0, 0);
    for (int kind = 0; kind < 7; kind++) {
      x.become(2, 10 * kind + 5);
      for (int voice = 0; voice < 4; voice++) {
        String call = "26: KIND " + kind + ", voice " + voice;
        due(call, x.voice(2, voice, 17), answers[kind][voice]);
        trace(call, x, traces[4 * kind + voice]);
      }
    }
    x.become(2, 45);
    due("26: one or the other, not both", x.voice(2, 2, 18), 91 - 2);
    x.become(2, 5);
    due("26: cut toward 0", x.voice(2, 3, -17), -5);
    due("26: wraps", x.voice(2, 0, MAX), MIN + 1);
    due("26: wraps", x.voice(2, 1, 1 << 30), MIN + 4);
    due("26: MIN by -1", x.voice(1, 3, MIN), MIN);
    x.become(2, 35);
    due("26: half of -7, cut", x.voice(2, 2, -7), -7);
    due("26: any number", x.voice(2, 0, BEYOND - 2), BEYOND);
    told("26", x, 0, 28, 0, 0, 0, 0);
    x.voice(2, 2, 0);
    due("26: person 3", x.voice(3, 0, 0), BEYOND);
    due("26: person -1", x.voice(-1, 0, 0), BEYOND);
    due("26: voice 4", x.voice(2, 4, 0), BEYOND);
    due("26: voice -1", x.voice(2, -1, 0), BEYOND);
    trace("26: BEYOND leaves THE TRACE", x, 40, 12, 11, 10);
    x.become(2, 12);
    due("26: PARTED", x.voice(2, 3, 17), PARTED);
    trace("26: as they began", x, 21, 13);
    x.become(2, 2);
    due("26: PARTED", x.voice(2, 3, 0), PARTED);
    trace("26: as it began", x, 13);
    due("26: no more PARTED", x.voice(2, 0, 1), 3);
    due("26: told(6)", x.told(6), 2);
  }

  private static void body() {
    GoingAbout x = Due.with(10, 0, 0);
    due("27: body(0)", x.body(0), NONE);
    x.voice(0, 1, 1);
    due("27: body(0)", x.body(0), 11);
    due("27: body(1)", x.body(1), 20);
    due("27: body(2)", x.body(2), 10);
    due("27: body(3)", x.body(3), NONE);
    due("27: body(-1)", x.body(-1), NONE);
    due("27: body(30)", x.body(30), NONE);
    due("27: body(MAX)", x.body(MAX), NONE);
    due("27: body(MIN)", x.body(MIN), NONE);
    x.voice(0, 0, 1);
    due("27: of the latest only", x.body(0), 20);
    due("27: of the latest only", x.body(2), NONE);
    told("27", x, 0, 7, 0, 0, 0, 0);
  }

  private static void sheet() {
    GoingAbout x = Due.with(0, 7, 0);
    due("28: sheet(0, 8, 24)", x.sheet(0, 8, 24), 1);
    due("28: put(0, 23, 1)", x.put(0, 23, 1), 1);
    due("28: put(0, 24, 1)", x.put(0, 24, 1), BEYOND);
    due("28: sheet(0, 8, 25)", x.sheet(0, 8, 25), BEYOND);
    due("28: sheet(0, 8, -1)", x.sheet(0, 8, -1), STATE);
    due("28: sheet(0, 8, MIN)", x.sheet(0, 8, MIN), STATE);
    due("28: sheet(0, 8, MAX)", x.sheet(0, 8, MAX), BEYOND);
    due("28: sheet(0, 9, -1)", x.sheet(0, 9, -1), BEYOND);
    due("28: sheet(0, -8, 1)", x.sheet(0, -8, 1), BEYOND);
    due("28: sheet(0, 64, 1)", x.sheet(0, 64, 1), BEYOND);
    due("28: sheet(4, 8, -1)", x.sheet(4, 8, -1), BEYOND);
    due("28: sheet(-1, 8, 1)", x.sheet(-1, 8, 1), BEYOND);
    due("28: as it was", x.put(0, 23, 1), 1);
    due("28: all 0", x.sheet(0, 16, 1), 1);
    due("28: all 0", x.nears(0), 1);
    due("28: all 0", x.personIs(0, 2), 0);
    due("28: shorter", x.put(0, 1, 1), BEYOND);
    x.put(0, 0, 5);
    due("28: all 0 again", x.sheet(0, 16, 2), 1);
    x.nears(0);
    due("28: all 0 again", x.personIs(0, 2), 0);
    due("28: sheet(0, 0, -1)", x.sheet(0, 0, -1), 1);
    due("28: missing", x.put(0, 0, 1), NONE);
    due("28: sheet(1, 0, 99)", x.sheet(1, 0, 99), 1);
    due("28: missing", x.nears(1), NONE);
    due("28: sheet(3, 32, 0)", x.sheet(3, 32, 0), 1);
    due("28: no numbers", x.nears(3), 0);
    told("28", x, 9, 2, 2, 0, 0, 0);
  }

  private static void put() {
    GoingAbout x = Due.with(0, 7, 0, 0, 8, 0);
    x.sheet(0, 8, 2);
    x.sheet(1, 16, 2);
    x.sheet(2, 32, 2);
    int[] lowest = {256 + 41, 65536 + 42, 43};
    for (int sheet = 0; sheet < 3; sheet++) {
      due("29: put", x.put(sheet, 0, lowest[sheet]), 1);
      due("29: put", x.put(sheet, 1, 99), 1);
      due("29: nears", x.nears(sheet), 2);
      due("29: lowest bits", x.personIs(0, 2), 41 + sheet);
    }
    x.put(1, 0, 256 + 41);
    due("29: 16 bits", x.nears(1), 0);
    x.put(2, 0, 65536 + 41);
    due("29: 32 bits", x.nears(2), 0);
    x.put(0, 0, -1);
    due("29: 8 bits of -1", x.nears(0), 0);
    x.put(0, 0, -256 + 17);
    due("29: 8 bits of -239", x.nears(0), 2);
    due("29: are 17", x.personIs(0, 2), 17);
    due("29: put(3, -1, 0)", x.put(3, -1, 0), NONE);
    due("29: put(4, 0, 0)", x.put(4, 0, 0), BEYOND);
    due("29: put(-1, 0, 0)", x.put(-1, 0, 0), BEYOND);
    due("29: put(0, 2, 0)", x.put(0, 2, 0), BEYOND);
    due("29: put(0, -1, 0)", x.put(0, -1, 0), BEYOND);
    due("29: put(0, MIN, 0)", x.put(0, MIN, 0), BEYOND);
    told("29", x, 5, 1, 0, 0, 0, 0);
  }

  private static void row(String when, GoingAbout x, int sheet, int... numbers) {
    due(when + ": nears", x.nears(sheet), numbers.length);
    for (int i = 0; i < numbers.length; i++) {
      due(when + ": number " + i, x.personIs(i, 2), numbers[i]);
    }
  }

  private static void move() {
    GoingAbout x = Due.with(0, 0, 0, 0, 0, 0, 0, 0, 0, 0, 0, 0, 0, 0, 0);
    Due.sheet(x, 0, 8, 1, 2, 3, 4, 5);
    Due.sheet(x, 1, 8, 11, 12, 13);
    Due.sheet(x, 2, 16, 21);
    due("30: to another", x.move(0, 3, 1, 0, 2), 2);
    row("30", x, 1, 4, 5, 13);
    row("30", x, 0, 1, 2, 3, 4, 5);
    due("30: on itself, upward", x.move(0, 0, 0, 1, 4), 4);
    row("30", x, 0, 1, 1, 2, 3, 4);
    due("30: on itself, downward", x.move(0, 2, 0, 0, 3), 3);
    row("30", x, 0, 2, 3, 4, 3, 4);
    due("30: all of a row", x.move(1, 0, 0, 2, 3), 3);
    row("30", x, 0, 2, 3, 4, 5, 13);
    due("30: to all of a row", x.move(0, 1, 1, 0, 3), 3);
    row("30", x, 1, 3, 4, 5);
    x.put(1, 0, 4);
    x.put(1, 1, 5);
    x.put(1, 2, 13);
    x.put(0, 3, 3);
    x.put(0, 4, 4);
    due("30: none, from the end", x.move(0, 5, 1, 3, 0), 0);
    due("30: none, past the end", x.move(0, 6, 1, 0, 0), BEYOND);
    due("30: none, to past the end", x.move(0, 0, 1, 4, 0), BEYOND);
    due("30: n -1", x.move(0, 1, 1, 1, -1), BEYOND);
    due("30: i -1", x.move(0, -1, 1, 0, 1), BEYOND);
    due("30: j -1", x.move(0, 0, 1, -1, 1), BEYOND);
    due("30: they don't stand there", x.move(0, 3, 1, 0, 3), BEYOND);
    due("30: nor there", x.move(0, 0, 1, 1, 3), BEYOND);
    due("30: i MAX", x.move(0, MAX, 1, 0, 1), BEYOND);
    due("30: n MAX", x.move(0, 1, 1, 1, MAX), BEYOND);
    due("30: j MAX", x.move(0, 1, 1, MAX, 2), BEYOND);
    row("30", x, 0, 2, 3, 4, 3, 4);
    row("30", x, 1, 4, 5, 13);
    due("30: unlike", x.move(0, 0, 2, 0, 99), KIND);
    due("30: missing", x.move(3, 0, 0, 0, 99), NONE);
    due("30: missing", x.move(2, 0, 3, 0, 99), NONE);
    due("30: sheet 4", x.move(4, 0, 3, 0, 1), BEYOND);
    due("30: other 4", x.move(3, 0, 4, 0, 1), BEYOND);
    due("30: sheet -1", x.move(-1, 0, 0, 0, 1), BEYOND);
    due("30: other -1", x.move(0, 0, -1, 0, 1), BEYOND);
    told("30", x, 14, 2, 0, 0, 1, 0);
  }

  private static void nears() {
    GoingAbout x = Due.with(0, 7, 0, 0, 8, 0, 0, 9, 0);
    due("31: missing", x.nears(0), NONE);
    due("31: sheet 4", x.nears(4), BEYOND);
    due("31: sheet -1", x.nears(-1), BEYOND);
    Due.sheet(x, 0, 32, 99, 100, 50);
    due("31: up to 100", x.nears(0), 1);
    stands("31", x, 0, 0, 0, 99, 0, 0);
    stands("31", x, 1, 0, 0, 8, 0, 0);
    stands("31", x, 2, 0, 0, 9, 0, 0);
    Due.sheet(x, 0, 32, 0, 1, -1);
    due("31: up to -1", x.nears(0), 2);
    stands("31", x, 0, 0, 0, 0, 0, 0);
    stands("31", x, 1, 0, 0, 1, 0, 0);
    stands("31", x, 2, 0, 0, 9, 0, 0);
    Due.sheet(x, 1, 16, 3, 4, 5, 6);
    due("31: for whom there is nobody", x.nears(1), 3);
    stands("31", x, 2, 0, 0, 5, 0, 0);
    Due.sheet(x, 1, 16, 44);
    due("31: one number", x.nears(1), 1);
    stands("31", x, 1, 0, 0, 4, 0, 0);
    told("31", x, 2, 1, 0, 0, 0, 0);
  }

  private static void judge() {
    GoingAbout x = Due.with(0, 7, 3, 10, 60, 4, 50, 77, 1);
    due("32: missing", x.judge(0), NONE);
    due("32: sheet 4", x.judge(4), BEYOND);
    due("32: sheet -1", x.judge(-1), BEYOND);
    Due.sheet(x, 0, 8, 3, 5, 7);
    due("32: all", x.judge(0), 3);
    x.put(0, 1, 4);
    due("32: from the first on", x.judge(0), 1);
    x.put(0, 0, 4);
    due("32: none", x.judge(0), 0);
    Due.sheet(x, 0, 16, 3, 5, 7, 0);
    due("32: nobody", x.judge(0), 3);
    Due.sheet(x, 0, 16, 3, 5);
    due("32: fewer", x.judge(0), 2);
    Due.sheet(x, 0, 32, 3, 5 + 256);
    due("32: no byte", x.judge(0), 1);
    Due.text(x, 1, "g+n/30+d");
    x.days(5);
    x.seems(0, 60);
    x.shows(0, 1);
    Due.sheet(x, 0, 32, 8);
    due("32: by a TEXT", x.judge(0), 1);
    told("32", x, 2, 1, 0, 0, 0, 0);
  }

  private static void image() {
    GoingAbout x = Due.with(12, 30, 3, 60, 40, 4);
    x.call(0, 1);
    Due.text(x, 0, "s*3");
    Due.text(x, 1, "7");
    Due.feed(x, "n+1");
    x.tell(40);
    x.tell(41);
    x.seed(99);
    x.days(3);
    Due.sheet(x, 0, 8, 5);
    x.voice(0, 0, 1);
    due("33: image()", x.image(), 1);
    x.person(0, 1, 1);
    x.become(0, 33);
    x.shows(0, 0);
    x.seems(1, 0);
    x.call(1, 0);
    x.feed('9', 1);
    x.text(0);
    Due.feed(x, "r*r*r");
    x.untell(1);
    x.check();
    x.tell(8);
    x.seed(5);
    x.days(9);
    Due.sheet(x, 0, 16, 6, 7);
    x.voice(1, 1, 1);
    x.told(0);
    due("34: restore()", x.restore(), 3);
    restored("34", x);
    due("34: SHEETS stay", x.put(0, 1, 0), 1);
    due("34: THE TRACE stays", x.count(5), 3);
    due("34: what told() tells stays", x.told(1), 1);
    due("34: TAPE is the IMAGE's", x.text(0), 1);
    due("34: n+1", x.law(0, 0, 5, 0), 6);
    x.days(1);
    due("34: the IMAGE stays", x.restore(), 3);
    restored("34: again", x);
    due("33: image() again", x.image(), 2);
    x.seed(1000);
    x.days(2);
    due("33: in place of one ahead", x.image(), 3);
    x.days(1);
    due("34: the later one", x.restore(), 5);
    due("34: the later z", x.count(6), 1000);
    due("33: how often goes on", x.image(), 4);
    GoingAbout y = new GoingAbout();
    due("34: none", y.restore(), NONE);
    y.image();
    y.person(0, 0, 0);
    due("34: nobody yet", y.restore(), 0);
    due("34: nobody yet", y.count(0), 0);
    told("34", y, 0, 1, 0, 0, 0, 0);
  }

  private static void restored(String when, GoingAbout x) {
    stands(when, x, 0, 1, 2, 21, 7, 2);
    stands(when, x, 1, 6, 0, 21, 7, 0);
    int[] counts = {2, 3, 0, 3, 2, 3, 99};
    for (int what = 0; what < counts.length; what++) {
      if (what != 5) {
        due(when + ": count(" + what + ")", x.count(what), counts[what]);
      }
    }
    due(when + ": TAKES", x.law(0, 0, 0, 9), 27);
    due(when + ": SIGN", x.law(1, 0, 0, 0), 7);
    due(when + ": what waits", x.check(), 1);
    x.restore();
    x.seems(0, 40);
    due(when + ": what waits", x.check(), 2);
    x.restore();
    due(when + ": waits again", x.count(4), 2);
  }

  private static void tell() {
    GoingAbout x = Due.with(0, 7, 0);
    for (int i = 1; i <= 24; i++) {
      due("35: tell", x.tell(7), i);
    }
    due("35: tell", x.tell(7), FULL);
    due("35: count(4)", x.count(4), 24);
    due("35: check", x.check(), 2);
    due("35: tell", x.tell(MIN), 1);
    told("35", x, 0, 0, 0, 1, 0, 0);
  }

  private static void check() {
    GoingAbout x = Due.with(0, 7, 0, 0, 8, 0, 0, 9, 0);
    due("36: none wait", x.check(), 0);
    x.tell(7);
    x.tell(8);
    due("36: so", x.check(), 0);
    due("36: none wait", x.count(4), 0);
    x.tell(7);
    x.tell(8);
    x.tell(8);
    due("36: the third", x.check(), 3);
    due("36: none wait", x.count(4), 0);
    x.tell(7 + 256);
    due("36: the first", x.check(), 1);
    x.tell(7);
    x.tell(8);
    x.tell(9);
    due("36: three", x.check(), 0);
    x.tell(7);
    x.tell(8);
    x.tell(9);
    x.tell(0);
    due("36: nobody", x.check(), 4);
    due("36: none wait", x.check(), 0);
    told("36", x, 0, 0, 0, 0, 0, 0);
  }

  private static void count() {
    GoingAbout x = Due.with(0, 7, 2, 0, 30, 0, 0, 30, 0);
    x.days(1);
    x.seems(1, 30);
    x.seems(2, 30);
    x.feed(0, 5);
    x.tell(1);
    x.tell(2);
    x.voice(0, 1, 0);
    x.seed(-4);
    int[] counts = {3, 1, 1, 5, 2, 2, -4};
    for (int what = 0; what < counts.length; what++) {
      due("37: count(" + what + ")", x.count(what), counts[what]);
    }
    due("37: count(7)", x.count(7), BEYOND);
    due("37: count(-1)", x.count(-1), BEYOND);
    due("37: count(MAX)", x.count(MAX), BEYOND);
    x.seed(BEYOND);
    due("37: any number", x.count(6), BEYOND);
    told("37", x, 3, 0, 0, 0, 0, 0);
  }

  private static void told() {
    GoingAbout x = Due.with(0, 0, 0);
    told("38", x, 0, 0, 0, 0, 0, 0);
    due("38: told(7)", x.told(7), BEYOND);
    due("38: told(0)", x.told(0), BEYOND);
    due("38: told(-1)", x.told(-1), BEYOND);
    due("38: told(MIN)", x.told(MIN), BEYOND);
    told("38", x, 4, 0, 0, 0, 0, 0);
    x.restore();
    x.restore();
    told("38", x, 4, 2, 0, 0, 0, 0);
    x.odds(0, 0);
    x.odds(0, 1);
    x.odds(0, 0);
    told("38", x, 4, 2, 3, 0, 0, 0);
    for (int i = 0; i < 31; i++) {
      x.tell(0);
    }
    told("38", x, 4, 2, 3, 7, 0, 0);
    x.as(0, 1);
    x.as(0, 2);
    told("38", x, 4, 2, 3, 7, 2, 0);
    x.voice(0, 3, 0);
    told("38", x, 4, 2, 3, 7, 2, 1);
  }

  public static void main(String[] args) {
    newObject();
    person();
    personIs();
    become();
    as();
    shows();
    seems();
    taken();
    call();
    feed();
    text();
    untell();
    law();
    days();
    loose();
    seed();
    nearest();
    then();
    settles();
    rank();
    signs();
    heard();
    odds();
    began();
    fits();
    voice();
    body();
    sheet();
    put();
    move();
    nears();
    judge();
    image();
    tell();
    check();
    count();
    told();
    Due.finish();
  }
}
