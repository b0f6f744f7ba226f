/** What the tests share: answers that are due, and how a test ends. */
final class Due {
  static final int LOW = -1000000000;
  static final int BEYOND = LOW - 1;
  static final int NONE = LOW - 2;
  static final int STATE = LOW - 3;
  static final int FULL = LOW - 4;
  static final int KIND = LOW - 5;
  static final int PARTED = LOW - 6;

  private static int asked = 0;
  private static int wrong = 0;

  private Due() {
  }

  static void due(String call, long got, long want) {
    asked++;
    if (got != want) {
      wrong++;
      if (wrong <= 50) {
        System.out.println(call + " answered " + got + ", due is " + want);
      }
    }
  }

  /** Writes a text to THE TAPE, which takes it whole. */
  static void feed(GoingAbout x, String text) {
    for (int from = 0; from < text.length(); from += 8) {
      int n = Math.min(8, text.length() - from);
      long word = 0;
      for (int i = 0; i < n; i++) {
        word |= (text.charAt(from + i) & 255L) << 8 * i;
      }
      int got = x.feed(word, n);
      if (got < LOW) {
        due("feed of " + text, got, 0);
      }
    }
  }

  static int text(GoingAbout x, int use, String text) {
    feed(x, text);
    return x.text(use);
  }

  /** A new object with PEOPLE: KIND and m, NEAR, SHOWS, three by three. */
  static GoingAbout with(int... people) {
    return join(new GoingAbout(), people);
  }

  static GoingAbout join(GoingAbout x, int... people) {
    for (int i = 0; i + 2 < people.length; i += 3) {
      x.person(people[i], people[i + 1], people[i + 2]);
    }
    return x;
  }

  static GoingAbout onDay(int day) {
    GoingAbout x = new GoingAbout();
    for (int left = day; left > 0; left -= 100) {
      x.days(Math.min(left, 100));
    }
    return x;
  }

  static void sheet(GoingAbout x, int sheet, int bits, int... numbers) {
    x.sheet(sheet, bits, numbers.length);
    for (int i = 0; i < numbers.length; i++) {
      x.put(sheet, i, numbers[i]);
    }
  }

  static void finish() {
    System.out.println(wrong == 0 ? asked + " answers are as due" : wrong + " of " + asked + " answers are not as due");
    if (wrong != 0) {
      System.exit(1);
    }
  }
}
