import java.lang.management.ManagementFactory;

/** No call makes an object: all rows are made with the object, which itself stays small. */
public final class RoomTest {
  private static final String[] TEXTS = {"(r+n*s)%100|!n", "g+d>n", "1+", "((((("};

  private static void allCalls(GoingAbout x, int turn) {
    x.person(turn * 13 % 70, turn % 100, turn % 10);
    x.personIs(0, 2);
    x.become(0, turn % 70);
    x.as(0, turn % 7);
    x.shows(0, turn % 10);
    x.seems(0, turn % 100);
    x.taken(0, 1);
    x.call(1, 0);
    String text = TEXTS[turn % 4];
    for (int i = 0; i < text.length(); i++) {
      x.feed(text.charAt(i), 1);
    }
    x.text(turn % 2);
    x.untell(turn / 2 % 2);
    x.law(0, 1, 2, 3);
    x.days(1);
    x.loose(1);
    x.seed(turn);
    x.nearest(100);
    x.then(0, 100, 0);
    x.settles();
    x.rank(0);
    x.signs(0, 5, 4, 1);
    x.heard(0);
    x.odds(0, 0);
    x.sheet(turn % 4, 8, 3);
    x.began(0, 20, 1);
    x.fits(0);
    x.voice(0, turn % 4, turn);
    x.body(0);
    x.put(0, 0, 5);
    x.move(0, 0, 0, 1, 1);
    x.nears(0);
    x.judge(0);
    x.image();
    x.restore();
    x.tell(turn);
    x.check();
    x.count(2);
    x.told(1);
  }

  private static long made() {
    return ((com.sun.management.ThreadMXBean) ManagementFactory.getThreadMXBean())
        .getThreadAllocatedBytes(Thread.currentThread().getId());
  }

  public static void main(String[] args) {
    GoingAbout[] objects = new GoingAbout[20];
    made();
    long before = made();
    for (int i = 0; i < objects.length; i++) {
      objects[i] = new GoingAbout();
    }
    long object = (made() - before) / objects.length;
    for (int turn = 0; turn < 10; turn++) {
      allCalls(new GoingAbout(), turn);
    }
    before = made();
    for (int turn = 0; turn < 200; turn++) {
      allCalls(objects[turn % 20], turn);
    }
    long calls = made() - before;
    Due.due("bytes made by 8,000 calls, below 4,000: " + calls, calls < 4000 ? 1 : 0, 1);
    Due.due("bytes of an object, below 8,000: " + object, object < 8000 ? 1 : 0, 1);
    System.out.println(calls + " bytes by calls, " + object + " an object");
    Due.finish();
  }
}
