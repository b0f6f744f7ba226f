import java.util.ArrayList;
import java.util.List;

/**
 * Each ERROR of each act, in the order in which the document tells them; and that an act which
 * answers one changes nothing but what told() tells. Two objects are made alike; one of them is
 * asked what it can't do, and then all that can be looked up in both must be the same.
 */
public final class RefusalsTest {
  private static final int BEYOND = 1;
  private static final int NONE = 2;
  private static final int STATE = 3;
  private static final int FULL = 4;
  private static final int KIND = 5;
  private static final int PARTED = 6;
  private static final int MIN = Integer.MIN_VALUE;
  private static final int MAX = Integer.MAX_VALUE;

  private interface Act {
    int on(GoingAbout x);
  }

  private interface Making {
    GoingAbout made();
  }

  // ---- what the acts are asked of

  private static GoingAbout nobody() {
    return new GoingAbout();
  }

  private static GoingAbout alone() {
    return Due.with(5, 50, 3);
  }

  /** Three PEOPLE amid their days, all sorts of SHEETS, and what is shown never settles. */
  private static GoingAbout some() {
    GoingAbout x = Due.with(12, 10, 3, 20, 60, 5);
    Due.text(x, 0, "n");
    x.image();
    x.person(47, 30, 1);
    Due.text(x, 0, "(r+n)/2");
    Due.text(x, 1, "(g+d+1)%10");
    x.days(5);
    x.call(2, 0);
    x.seed(4711);
    Due.feed(x, "n+1");
    x.tell(x.personIs(0, 2));
    x.tell(x.personIs(1, 2));
    Due.sheet(x, 0, 8, 40, 60, 200);
    Due.sheet(x, 1, 16, 7, 8, 300, 9);
    Due.sheet(x, 2, 32);
    x.voice(0, 2, 3);
    x.told(9);
    x.body(9);
    return x;
  }

  /** As many as there may be of all, on the last DAY. */
  private static GoingAbout full() {
    GoingAbout x = Due.onDay(9999);
    Due.join(x, 0, 90, 1, 11, 80, 2, 22, 70, 3, 33, 60, 4, 44, 50, 5, 55, 40, 6, 66, 30, 7, 7, 20, 8);
    x.image();
    x.call(7, 6);
    x.image();
    Due.feed(x, "r+n-s*1/2%3+r+n-s*1/2%3+r+n-s*1/2%3+r+n-s*1/2%3+r+n-s*1/2%33");
    for (int i = 0; i < 24; i++) {
      x.tell(i < 8 ? x.personIs(i, 2) : 5);
    }
    x.sheet(0, 8, 24);
    for (int i = 0; i < 24; i++) {
      x.put(0, i, 3 * i);
    }
    Due.sheet(x, 1, 8, 1, 2);
    Due.sheet(x, 2, 16, 5);
    x.voice(4, 3, 3);
    return x;
  }

  // ---- what can be looked up

  private static void addCounts(GoingAbout x, List<Integer> seen) {
    for (int what = 0; what < 7; what++) {
      seen.add(x.count(what));
    }
    for (int person = 0; person < x.count(0); person++) {
      for (int what = 0; what < 5; what++) {
        seen.add(x.personIs(person, what));
      }
    }
    for (int use = 0; use < 2; use++) {
      seen.add(x.law(use, 3, 5, 2));
      seen.add(x.law(use, 6, 60, 4));
    }
  }

  private static void addSheets(GoingAbout x, List<Integer> seen) {
    for (int sheet = 0; sheet < 4; sheet++) {
      int n = 0;
      while (n < 24 && x.move(sheet, n, sheet, n, 1) == 1) {
        n++;
      }
      seen.add(n);
      seen.add(x.move(sheet, 0, sheet, 0, 0));
      for (int i = 0; i < n; i++) {
        x.move(sheet, i, sheet, 0, 1);
        seen.add(x.nears(sheet));
        seen.add(x.personIs(0, 2));
      }
    }
  }

  /** All but what told() tells and THE TRACE, which are looked up apart; this changes x. */
  private static List<Integer> seen(GoingAbout x) {
    List<Integer> seen = new ArrayList<>();
    addCounts(x, seen);
    seen.add(x.check());
    seen.add(x.text(0));
    seen.add(x.law(0, 41, 7, 3));
    addSheets(x, seen);
    seen.add(x.restore());
    addCounts(x, seen);
    seen.add(x.image());
    return seen;
  }

  private static List<Integer> trace(GoingAbout x) {
    List<Integer> trace = new ArrayList<>();
    for (int i = 0; i < x.count(5); i++) {
      trace.add(x.body(i));
    }
    return trace;
  }

  private static void same(String call, List<Integer> is, List<Integer> was) {
    Due.due(call + ": how many numbers are looked up", is.size(), was.size());
    for (int i = 0; i < was.size() && i < is.size(); i++) {
      Due.due(call + " changed number " + i + " that is looked up", is.get(i), was.get(i));
    }
  }

  private static void told(String call, GoingAbout is, GoingAbout was, int error) {
    for (int k = 1; k <= 6; k++) {
      Due.due(call + ", then told(" + k + ")", is.told(k), was.told(k) + (k == error ? 1 : 0));
    }
  }

  private static void refused(String call, Making making, int error, Act act) {
    GoingAbout was = making.made();
    GoingAbout is = making.made();
    Due.due(call, act.on(is), Due.LOW - error);
    told(call, is, was, error);
    same(call + ", THE TRACE,", trace(is), trace(was));
    same(call, seen(is), seen(was));
  }

  private static void refusedByAll(String call, int error, Act act) {
    refused(call + " of nobody", RefusalsTest::nobody, error, act);
    refused(call + " of one", RefusalsTest::alone, error, act);
    refused(call + " of some", RefusalsTest::some, error, act);
    refused(call + " of a full one", RefusalsTest::full, error, act);
  }

  private static void refusedBySome(String call, int error, Act act) {
    refused(call, RefusalsTest::some, error, act);
  }

  private static void refusedByFull(String call, int error, Act act) {
    refused(call, RefusalsTest::full, error, act);
  }

  // ---- people

  private static void person() {
    for (int km : new int[] {-1, 70, MIN, MAX}) {
      refusedByAll("person(" + km + ", 0, 0)", BEYOND, x -> x.person(km, 0, 0));
    }
    for (int near : new int[] {-1, 100, MIN, MAX}) {
      refusedByAll("person(0, " + near + ", 0)", BEYOND, x -> x.person(0, near, 0));
    }
    for (int shows : new int[] {-1, 10, MIN, MAX}) {
      refusedByAll("person(0, 0, " + shows + ")", BEYOND, x -> x.person(0, 0, shows));
    }
    refusedByFull("person(0, 0, 0), a ninth", FULL, x -> x.person(0, 0, 0));
    refusedByFull("person(69, 99, 9), a ninth", FULL, x -> x.person(69, 99, 9));
  }

  /** Numbers of nobody, whoever there is. */
  private static final int[] NOBODY = {-1, 8, MIN, MAX};

  private static void nobodyOfThatNumber() {
    for (int p : NOBODY) {
      String of = "(" + p + ", ..)";
      refusedByAll("personIs" + of, BEYOND, x -> x.personIs(p, 0));
      refusedByAll("become" + of, BEYOND, x -> x.become(p, 0));
      refusedByAll("as" + of, BEYOND, x -> x.as(p, 0));
      refusedByAll("shows" + of, BEYOND, x -> x.shows(p, 0));
      refusedByAll("seems" + of, BEYOND, x -> x.seems(p, 0));
      refusedByAll("taken" + of, BEYOND, x -> x.taken(p, 0));
      refusedByAll("taken(0, " + p + ")", BEYOND, x -> x.taken(0, p));
      refusedByAll("call" + of, BEYOND, x -> x.call(p, 0));
      refusedByAll("call(0, " + p + ")", BEYOND, x -> x.call(0, p));
      refusedByAll("then" + of, BEYOND, x -> x.then(p, 0, 0));
      refusedByAll("rank" + of, BEYOND, x -> x.rank(p));
      refusedByAll("signs" + of, BEYOND, x -> x.signs(p, 0, 1, 0));
      refusedByAll("heard" + of, BEYOND, x -> x.heard(p));
      refusedByAll("odds" + of, BEYOND, x -> x.odds(p, 0));
      refusedByAll("voice" + of, BEYOND, x -> x.voice(p, 0, 0));
    }
    nextNumber();
  }

  /** The next one beyond those that are there: 0 of nobody, 1 of one, 3 of three. */
  private static void nextNumber() {
    Act[] acts = {x -> x.personIs(x.count(0), 0), x -> x.become(x.count(0), 0), x -> x.as(x.count(0), 0),
      x -> x.shows(x.count(0), 0), x -> x.seems(x.count(0), 0), x -> x.taken(x.count(0), 0),
      x -> x.taken(0, x.count(0)), x -> x.call(x.count(0), 0), x -> x.call(0, x.count(0)),
      x -> x.then(x.count(0), 0, 0), x -> x.rank(x.count(0)), x -> x.signs(x.count(0), 0, 1, 0),
      x -> x.heard(x.count(0)), x -> x.odds(x.count(0), 0), x -> x.voice(x.count(0), 0, 0)};
    for (int i = 0; i < acts.length; i++) {
      refusedByAll("the next number, act " + i, BEYOND, acts[i]);
    }
  }

  private static void peopleBeyond() {
    for (int what : new int[] {-1, 5, MIN, MAX}) {
      refusedBySome("personIs(0, " + what + ")", BEYOND, x -> x.personIs(0, what));
    }
    for (int km : new int[] {-1, 70, MIN, MAX}) {
      refusedBySome("become(0, " + km + ")", BEYOND, x -> x.become(0, km));
    }
    for (int sign : new int[] {-1, 10, MIN, MAX}) {
      refusedBySome("shows(0, " + sign + ")", BEYOND, x -> x.shows(0, sign));
    }
    for (int near : new int[] {-1, 100, MIN, MAX}) {
      refusedBySome("seems(0, " + near + ")", BEYOND, x -> x.seems(0, near));
    }
    for (int kind : new int[] {-1, 7, MIN, MAX}) {
      refusedBySome("as(0, " + kind + ")", BEYOND, x -> x.as(0, kind));
    }
    for (int p = 0; p < 3; p++) {
      int one = p;
      refusedBySome("taken of oneself, " + p, BEYOND, x -> x.taken(one, one));
      refusedBySome("call on oneself, " + p, BEYOND, x -> x.call(one, one));
    }
    refusedByFull("taken(7, 7)", BEYOND, x -> x.taken(7, 7));
    refusedByFull("call(7, 7)", BEYOND, x -> x.call(7, 7));
  }

  /** full() has a KIND k with number k; 0, 1 and 4, 2 and 5 stand one under another. */
  private static void asUnlike() {
    int[][] is = {{0}, {0, 1}, {0, 2}, {0, 3}, {0, 1, 4}, {0, 2, 5}, {0, 6}};
    for (int k = 0; k < 7; k++) {
      for (int kind = 0; kind < 7; kind++) {
        boolean unlike = true;
        for (int one : is[k]) {
          unlike &= one != kind;
        }
        if (unlike) {
          int person = k;
          int as = kind;
          refusedByFull("as(" + k + ", " + kind + ")", KIND, x -> x.as(person, as));
        }
      }
    }
    refusedBySome("as(3, 6), of nobody ahead of the KIND", BEYOND, x -> x.as(3, 6));
  }

  // ---- texts

  private static void feed() {
    for (int n : new int[] {0, 9, -1, MIN, MAX}) {
      refusedByAll("feed(.., " + n + "), ahead of FULL", BEYOND, x -> x.feed(-1L, n));
    }
    for (int n = 1; n <= 8; n++) {
      int bytes = n;
      refusedByFull("feed(.., " + n + ") on 60 bytes", FULL, x -> x.feed(0x3131313131313131L, bytes));
      refused("feed(.., " + n + ") on " + (61 - n) + " bytes", () -> taped(61 - bytes), FULL,
          x -> x.feed(0x3131313131313131L, bytes));
    }
  }

  private static GoingAbout taped(int bytes) {
    GoingAbout x = new GoingAbout();
    Due.feed(x, "1+1+1+1+1+1+1+1+1+1+1+1+1+1+1+1+1+1+1+1+1+1+1+1+1+1+1+1+1+11".substring(0, bytes));
    return x;
  }

  private static void uses() {
    for (int use : new int[] {-1, 2, MIN, MAX}) {
      refusedByAll("text(" + use + ")", BEYOND, x -> x.text(use));
      refusedByAll("untell(" + use + ")", BEYOND, x -> x.untell(use));
      refusedByAll("law(" + use + ", ..)", BEYOND, x -> x.law(use, 1, 2, 3));
    }
  }

  // ---- days

  private static void days() {
    for (int n : new int[] {0, 101, -1, MIN, MAX}) {
      refusedByAll("days(" + n + "), ahead of STATE", BEYOND, x -> x.days(n));
    }
    for (int n : new int[] {0, 31, 100, -1, MIN, MAX}) {
      refusedByAll("loose(" + n + "), ahead of STATE", BEYOND, x -> x.loose(n));
    }
    for (int n : new int[] {1, 2, 30, 99, 100}) {
      refusedByFull("days(" + n + ") on DAY 9999", STATE, x -> x.days(n));
      refused("days(" + n + ") a DAY too late", () -> late(10000 - n), STATE, x -> x.days(n));
    }
    for (int n : new int[] {1, 2, 29, 30}) {
      refusedByFull("loose(" + n + ") on DAY 9999", STATE, x -> x.loose(n));
      refused("loose(" + n + ") a DAY too late", () -> late(10000 - n), STATE, x -> x.loose(n));
    }
  }

  private static GoingAbout late(int day) {
    return Due.join(Due.onDay(day), 0, 10, 1, 10, 40, 4);
  }

  // ---- what is, what would be

  private static void nearest() {
    for (int n : new int[] {-1, 101, MIN, MAX}) {
      refusedByAll("nearest(" + n + "), ahead of STATE", BEYOND, x -> x.nearest(n));
    }
    for (int n : new int[] {0, 1, 100}) {
      refused("nearest(" + n + ") of nobody", RefusalsTest::nobody, STATE, x -> x.nearest(n));
    }
  }

  private static void then() {
    for (int n : new int[] {-1, 101, MIN, MAX}) {
      refusedBySome("then(0, " + n + ", 0)", BEYOND, x -> x.then(0, n, 0));
      refusedBySome("then(0, " + n + ", 1)", BEYOND, x -> x.then(0, n, 1));
    }
    for (int what : new int[] {-1, 2, MIN, MAX}) {
      refusedBySome("then(0, 0, " + what + ")", BEYOND, x -> x.then(0, 0, what));
    }
  }

  private static void signs() {
    for (int sign : new int[] {-1, 10, MIN, MAX}) {
      refusedBySome("signs(0, " + sign + ", 1, 0)", BEYOND, x -> x.signs(0, sign, 1, 0));
    }
    for (int n : new int[] {0, 5, -1, MIN, MAX}) {
      refusedBySome("signs(0, 0, " + n + ", 0)", BEYOND, x -> x.signs(0, 0, n, 0));
    }
    for (int what : new int[] {-1, 2, MIN, MAX}) {
      refusedBySome("signs(0, 0, 1, " + what + ")", BEYOND, x -> x.signs(0, 0, 1, what));
      refused("signs(1, 5, 1, " + what + "), ahead of NONE", RefusalsTest::level, BEYOND, x -> x.signs(1, 5, 1, what));
    }
    refused("signs(1, 5, 1, 0)", RefusalsTest::level, NONE, x -> x.signs(1, 5, 1, 0));
    refused("signs(1, 5, 4, 1)", RefusalsTest::level, NONE, x -> x.signs(1, 5, 4, 1));
  }

  /** Two PEOPLE alike, so that 1 never seems nearest by the sign that both show. */
  private static GoingAbout level() {
    return Due.with(0, 40, 5, 0, 40, 5);
  }

  private static void settles() {
    refusedBySome("settles()", NONE, x -> x.settles());
  }

  private static void odds() {
    for (int part : new int[] {-1, 2, MIN, MAX}) {
      refusedByAll("odds(0, " + part + "), ahead of STATE", BEYOND, x -> x.odds(0, part));
    }
    refused("odds(0, 0) of one alone", RefusalsTest::alone, STATE, x -> x.odds(0, 0));
    refused("odds(0, 1) of one alone", RefusalsTest::alone, STATE, x -> x.odds(0, 1));
  }

  private static void began() {
    for (int n : new int[] {-1, 21, MIN, MAX}) {
      refusedByAll("began(3, " + n + ", 0), ahead of NONE", BEYOND, x -> x.began(3, n, 0));
      refusedBySome("began(0, " + n + ", 1)", BEYOND, x -> x.began(0, n, 1));
    }
    for (int what : new int[] {-1, 2, MIN, MAX}) {
      refusedByAll("began(3, 0, " + what + "), ahead of NONE", BEYOND, x -> x.began(3, 0, what));
      refusedBySome("began(0, 0, " + what + ")", BEYOND, x -> x.began(0, 0, what));
    }
    for (int n : new int[] {0, 1, 20}) {
      refusedByAll("began(3, " + n + ", 0)", NONE, x -> x.began(3, n, 0));
      refusedByAll("began(3, " + n + ", 1)", NONE, x -> x.began(3, n, 1));
      refusedBySome("began(0, " + n + ", 1)", NONE, x -> x.began(0, n, 1));
    }
    Due.due("began(0, 1, 0) is no ERROR", some().began(0, 1, 0), 0);
  }

  private static void fits() {
    refusedByAll("fits(3)", NONE, x -> x.fits(3));
    refusedBySome("fits(0), not by 100", NONE, x -> x.fits(0));
  }

  // ---- voices, sheets, images, what is told

  private static void voice() {
    for (int voice : new int[] {-1, 4, MIN, MAX}) {
      refusedBySome("voice(0, " + voice + ", 0)", BEYOND, x -> x.voice(0, voice, 0));
      refusedByFull("voice(4, " + voice + ", 0)", BEYOND, x -> x.voice(4, voice, 0));
    }
    for (int x0 : new int[] {0, 1, -1, MIN, MAX}) {
      for (int k = 0; k < 7; k++) {
        int person = k;
        parted("voice(" + k + ", 3, " + x0 + ")", k == 1 || k == 4, x -> x.voice(person, 3, x0));
      }
    }
  }

  /** Only THE TRACE is another one then: that is of the latest voice(). */
  private static void parted(String call, boolean gossip, Act act) {
    GoingAbout was = full();
    GoingAbout is = full();
    Due.due(call, act.on(is), Due.PARTED);
    told(call, is, was, PARTED);
    same(call + ", THE TRACE,", trace(is), gossip ? List.of(21, 13) : List.of(13));
    was.voice(7, 3, 0);
    is.voice(7, 3, 0);
    same(call, seen(is), seen(was));
  }

  private static void body() {
    for (int i : new int[] {-1, 30, MIN, MAX}) {
      refusedByAll("body(" + i + ")", NONE, x -> x.body(i));
    }
    refusedByAll("body behind the last", NONE, x -> x.body(x.count(5)));
  }

  private static void noSuchSheet() {
    for (int s : new int[] {-1, 4, MIN, MAX}) {
      refusedByAll("began(" + s + ", ..)", BEYOND, x -> x.began(s, 0, 0));
      refusedByAll("fits(" + s + ")", BEYOND, x -> x.fits(s));
      refusedByAll("sheet(" + s + ", 8, 1)", BEYOND, x -> x.sheet(s, 8, 1));
      refusedByAll("sheet(" + s + ", 0, 1)", BEYOND, x -> x.sheet(s, 0, 1));
      refusedByAll("sheet(" + s + ", 8, -1), ahead of STATE", BEYOND, x -> x.sheet(s, 8, -1));
      refusedByAll("put(" + s + ", 0, 1)", BEYOND, x -> x.put(s, 0, 1));
      refusedByAll("move(" + s + ", 0, 3, 0, 0), ahead of NONE", BEYOND, x -> x.move(s, 0, 3, 0, 0));
      refusedByAll("move(3, 0, " + s + ", 0, 0), ahead of NONE", BEYOND, x -> x.move(3, 0, s, 0, 0));
      refusedBySome("move(" + s + ", 0, 0, 0, 0)", BEYOND, x -> x.move(s, 0, 0, 0, 0));
      refusedBySome("move(0, 0, " + s + ", 0, 0)", BEYOND, x -> x.move(0, 0, s, 0, 0));
      refusedByAll("nears(" + s + ")", BEYOND, x -> x.nears(s));
      refusedByAll("judge(" + s + ")", BEYOND, x -> x.judge(s));
    }
  }

  private static void sheet() {
    for (int bits : new int[] {-8, -1, 1, 4, 7, 9, 12, 15, 17, 24, 31, 33, 64, MIN, MAX}) {
      refusedBySome("sheet(0, " + bits + ", 1)", BEYOND, x -> x.sheet(0, bits, 1));
      refusedBySome("sheet(0, " + bits + ", -1), ahead of STATE", BEYOND, x -> x.sheet(0, bits, -1));
    }
    for (int bits : new int[] {8, 16, 32}) {
      for (int s = 0; s < 4; s++) {
        int sheet = s;
        refusedBySome("sheet(" + s + ", " + bits + ", -1)", STATE, x -> x.sheet(sheet, bits, -1));
        refusedBySome("sheet(" + s + ", " + bits + ", MIN)", STATE, x -> x.sheet(sheet, bits, MIN));
        refusedBySome("sheet(" + s + ", " + bits + ", 25)", BEYOND, x -> x.sheet(sheet, bits, 25));
        refusedBySome("sheet(" + s + ", " + bits + ", MAX)", BEYOND, x -> x.sheet(sheet, bits, MAX));
      }
    }
  }

  private static void put() {
    for (int i : new int[] {-1, 0, 24, MIN, MAX}) {
      refusedByAll("put(3, " + i + ", 1), ahead of BEYOND", NONE, x -> x.put(3, i, 1));
    }
    for (int i : new int[] {-1, 3, 24, MIN, MAX}) {
      refusedBySome("put(0, " + i + ", 1)", BEYOND, x -> x.put(0, i, 1));
    }
    refusedBySome("put(2, 0, 1), without numbers", BEYOND, x -> x.put(2, 0, 1));
    refusedByFull("put(0, 24, 1)", BEYOND, x -> x.put(0, 24, 1));
  }

  private static void move() {
    refusedByAll("move(3, 0, 3, 0, 0)", NONE, x -> x.move(3, 0, 3, 0, 0));
    refusedBySome("move(0, -1, 3, 0, 99), ahead of BEYOND", NONE, x -> x.move(0, -1, 3, 0, 99));
    refusedBySome("move(3, 0, 0, -1, -1), ahead of BEYOND", NONE, x -> x.move(3, 0, 0, -1, -1));
    refusedBySome("move(0, 0, 1, 0, 1)", KIND, x -> x.move(0, 0, 1, 0, 1));
    refusedBySome("move(1, 0, 2, 0, 0), none", KIND, x -> x.move(1, 0, 2, 0, 0));
    refusedBySome("move(2, 9, 0, -9, 25), ahead of BEYOND", KIND, x -> x.move(2, 9, 0, -9, 25));
    int[][] beyond = {{0, 0, -1}, {0, 0, MIN}, {-1, 0, 1}, {MIN, 0, 1}, {0, -1, 1}, {0, MIN, 1}, {-1, 0, 0}, {0, -1, 0},
      {23, 0, 2}, {0, 23, 2}, {24, 0, 1}, {0, 24, 1}, {25, 0, 0}, {0, 25, 0}, {0, 0, 25}, {1, 0, 24}, {0, 1, 24},
      {MAX, 0, 1}, {0, MAX, 1}, {1, 0, MAX}, {0, 1, MAX}, {MAX, MAX, MAX}, {MIN, MIN, MIN}, {MAX, 0, MIN}};
    for (int[] by : beyond) {
      refusedByFull("move(0, " + by[0] + ", 0, " + by[1] + ", " + by[2] + ")", BEYOND,
          x -> x.move(0, by[0], 0, by[1], by[2]));
    }
    refusedByFull("move(0, 0, 1, 0, 3), too many for the other", BEYOND, x -> x.move(0, 0, 1, 0, 3));
    refusedByFull("move(1, 0, 0, 0, 3), more than there are", BEYOND, x -> x.move(1, 0, 0, 0, 3));
  }

  private static void missing() {
    refusedByAll("nears(3)", NONE, x -> x.nears(3));
    refusedByAll("judge(3)", NONE, x -> x.judge(3));
    refused("restore()", RefusalsTest::nobody, NONE, x -> x.restore());
    refused("restore(), none as yet", RefusalsTest::level, NONE, x -> x.restore());
  }

  private static void tell() {
    for (int v : new int[] {0, 5, -1, MIN, MAX}) {
      refusedByFull("tell(" + v + ")", FULL, x -> x.tell(v));
    }
  }

  private static void count() {
    for (int what : new int[] {-1, 7, MIN, MAX}) {
      refusedByAll("count(" + what + ")", BEYOND, x -> x.count(what));
    }
  }

  private static void told() {
    for (int k : new int[] {0, 7, -1, MIN, MAX}) {
      refusedByAll("told(" + k + ")", BEYOND, x -> x.told(k));
    }
  }

  // ---- what is only asked, or only thought

  private static void changesNothing(String call, Act act) {
    for (int making = 0; making < 4; making++) {
      GoingAbout was = ofMaking(making);
      GoingAbout is = ofMaking(making);
      int answer = act.on(is);
      told(call, is, was, answer < Due.LOW && answer >= Due.PARTED ? Due.LOW - answer : 0);
      same(call + ", THE TRACE,", trace(is), trace(was));
      same(call, seen(is), seen(was));
    }
  }

  private static GoingAbout ofMaking(int making) {
    return making == 0 ? nobody() : making == 1 ? alone() : making == 2 ? some() : full();
  }

  private static void onlyThought() {
    changesNothing("personIs(0, 2)", x -> x.personIs(0, 2));
    changesNothing("as(0, 0)", x -> x.as(0, 0));
    changesNothing("taken(0, 1)", x -> x.taken(0, 1));
    changesNothing("law(0, ..)", x -> x.law(0, 50, 7, 3));
    changesNothing("nearest(0)", x -> x.nearest(0));
    changesNothing("nearest(100)", x -> x.nearest(100));
    changesNothing("then(0, 100, 0)", x -> x.then(0, 100, 0));
    changesNothing("then(0, 100, 1)", x -> x.then(0, 100, 1));
    changesNothing("settles()", x -> x.settles());
    changesNothing("rank(0)", x -> x.rank(0));
    changesNothing("signs(0, 9, 4, 0)", x -> x.signs(0, 9, 4, 0));
    changesNothing("signs(0, 0, 1, 1)", x -> x.signs(0, 0, 1, 1));
    changesNothing("heard(0)", x -> x.heard(0));
    changesNothing("odds(0, 0)", x -> x.odds(0, 0));
    changesNothing("began(0, 20, 0)", x -> x.began(0, 20, 0));
    changesNothing("began(1, 1, 1)", x -> x.began(1, 1, 1));
    changesNothing("fits(0)", x -> x.fits(0));
    changesNothing("body(0)", x -> x.body(0));
    changesNothing("judge(0)", x -> x.judge(0));
    changesNothing("put as it was", x -> x.put(1, 0, x.count(0) == 3 ? 7 : 1));
    changesNothing("move of none", x -> x.move(0, 0, 0, 1, 0));
    changesNothing("count(2)", x -> x.count(2));
    changesNothing("told(1)", x -> x.told(1));
  }

  public static void main(String[] args) {
    person();
    nobodyOfThatNumber();
    peopleBeyond();
    asUnlike();
    feed();
    uses();
    days();
    nearest();
    then();
    signs();
    settles();
    odds();
    began();
    fits();
    voice();
    body();
    noSuchSheet();
    sheet();
    put();
    move();
    missing();
    tell();
    count();
    told();
    onlyThought();
    Due.finish();
  }
}
