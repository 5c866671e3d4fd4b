import java.nio.file.Files;
import java.nio.file.Path;
import java.util.Arrays;

/**
 * What the tests of the edges share: a test for each sentence of the document, quoted as it stands there,
 * towns to ask in, and all that calls can tell of an object. The tests extend it, to have its names.
 */
class Edges {
  static final int BEYOND = -1000001, FULL = -1000002, KIND = -1000003, NONE = -1000004,
      STATE = -1000005, MISSING = -1000006, SIZE = -1000007;
  static final int PERSON = 0, GOSSIP = 1, CLERK = 2, JUDGE = 3, NOBODY = 4, MUTE = 5, CHILD = 6;
  static final int MIN = Integer.MIN_VALUE, MAX = Integer.MAX_VALUE;
  /** Not a promise, but what the document says ahead of them. */
  static final int TERMS = 0;

  interface Test { void run(); }
  interface Make { NobodySaid make(); }
  interface Act { long on(NobodySaid x); }
  interface ActWith { long on(NobodySaid x, int v); }

  private static int sentences = 0, broken = 0, asked = 0, wrong = 0, promise = 0;
  private static String words = "";
  private static final String DOCUMENT = document();

  // ---- sentences

  private static String document() {
    try {
      return Files.readString(Path.of("../shared/DOC.md")).replaceAll("\\s+", " ");
    } catch (java.io.IOException e) {
      return "";
    }
  }

  /** The words of a promise, or those ahead of all of them. */
  private static String section(int number) {
    int begin = number == TERMS ? 0 : DOCUMENT.indexOf("## Promise " + number + ":");
    int end = DOCUMENT.indexOf(number == 44 ? "## Not promised" : "## Promise " + (number + 1) + ":");
    return begin < 0 || end < begin ? "" : DOCUMENT.substring(begin, end);
  }

  /** A sentence of a promise, as it stands in the document (if that can be read here), and its test. */
  static void sentence(int number, String quoted, Test test) {
    promise = number;
    words = quoted;
    sentences++;
    asked = 0;
    int before = wrong;
    if (!DOCUMENT.isEmpty() && !section(number).contains(quoted)) tell("the document doesn't say so");
    try {
      test.run();
    } catch (RuntimeException e) {
      tell("the machine threw " + e);
    }
    if (asked == 0) tell("nothing is asked");
    if (wrong > before) broken++;
  }

  private static void tell(String what) {
    wrong++;
    System.out.println((promise == TERMS ? "terms" : "promise " + promise) + ", \"" + words + "\": " + what);
  }

  static void due(long want, long got) {
    asked++;
    if (got != want) tell("question " + asked + " answered " + got + ", due is " + want);
  }

  /** All of these are due to be the same. */
  static void all(long want, long... got) { for (long g : got) due(want, g); }

  static void same(String want, String got) {
    asked++;
    if (!want.equals(got)) tell("question " + asked + ":\n  told " + got + "\n  due  " + want);
  }

  static void end() {
    System.out.println(sentences + " sentences asked, " + broken + " don't hold");
    if (wrong != 0) System.exit(1);
  }

  // ---- refused calls

  static int[] statuses(NobodySaid x) {
    int[] all = new int[8];
    for (int which = -1; which <= 6; which++) all[1 + which] = x.status(which);
    return all;
  }

  /** The act answers that finding, status() counts it once and as that, and nothing else is other than without it. */
  static void refuses(int finding, Make make, Act act) {
    NobodySaid x = make.make();
    int[] due = statuses(x);
    due(finding, act.on(x));
    due[0]++;
    due[1 + BEYOND - finding]++;
    same(Arrays.toString(due), Arrays.toString(statuses(x)));
    same(print(make.make()), print(x));
  }

  /** So it is with each of these values. */
  static void refuses(int finding, Make make, ActWith act, int... values) {
    for (int v : values) refuses(finding, make, x -> act.on(x, v));
  }

  /** The act answers no finding for any of these values, each asked of an object of its own. */
  static void takes(Make make, ActWith act, int... values) {
    for (int v : values) {
      NobodySaid x = make.make();
      int before = x.status(-1);
      long got = act.on(x, v);
      asked++;
      if (got <= BEYOND && got >= SIZE) tell("for " + v + " it answered the finding " + got);
      due(before, x.status(-1));
    }
  }

  /** The call changes nothing, whatever it answers. */
  static void changesNothing(Make make, Act act) {
    NobodySaid x = make.make();
    act.on(x);
    same(print(make.make()), print(x));
  }

  // ---- all that calls can tell of an object, status() aside (it is worn out by that)

  static String print(NobodySaid x) {
    StringBuilder t = new StringBuilder();
    printTown(x, t);
    printSheets(x, t);
    t.append(" | text ").append(x.text());
    for (int i = 0; i < 6; i++) t.append(' ').append(x.listed(i));
    t.append(" | people ").append(x.count(1)).append(" sayings ").append(x.count(2));
    t.append(" | undo ").append(x.undo());
    printTown(x, t);
    t.append(" | tear ").append(x.tear()).append(" evening ").append(x.evening(2)).append(" z ").append(x.count(6));
    return t.toString();
  }

  private static void printTown(NobodySaid x, StringBuilder t) {
    t.append(" | list");
    for (int i = 0; i < 6; i++) t.append(' ').append(x.listed(i));
    t.append(" | count");
    for (int what = 0; what <= 7; what++) t.append(' ').append(x.count(what));
    for (int p = 0; p < x.count(1); p++) {
      t.append(" | one");
      for (int what = 0; what <= 4; what++) t.append(' ').append(x.of(p, what));
    }
    for (int s = 0; s < x.count(2); s++) {
      t.append(" | saying");
      for (int what = 0; what <= 2; what++) t.append(' ').append(x.ofSaying(s, what));
      for (int p = 0; p < 8; p++) if ((x.ofSaying(s, 2) >> p & 1) == 1) t.append(' ').append(p).append("<").append(x.from(s, p));
    }
    t.append(" | spots");
    for (int spot = 0; spot < 10; spot++) t.append(' ').append(x.as(spot, PERSON));
  }

  private static void printSheets(NobodySaid x, StringBuilder t) {
    for (int s = 0; s < 4; s++) {
      t.append(" | sheet ").append(s);
      for (int other = 0; other < s; other++) t.append(' ').append(x.copy(s, 0, other, 0, 0));
      int size = size(x, s);
      t.append(" size ").append(size).append(" judge ").append(x.judge(s)).append(" has");
      for (int i = 0; i < Math.min(size, 4); i++) t.append(' ').append(number(x, s, i));
      if (size > 4) t.append(" .. ").append(number(x, s, size - 1));
    }
  }

  /** How many numbers a sheet has; a MISSING one -1. */
  static int size(NobodySaid x, int s) {
    int low = -1, high = 41;
    while (high - low > 1) {
      int n = (low + high) / 2;
      if (x.copy(s, 0, s, 0, n) == n) low = n; else high = n;
    }
    return low;
  }

  /** Number i of a sheet, if it is 0 to 9, else -1; it comes to the sheet's begin, and to the TRUST of 0. */
  static int number(NobodySaid x, int s, int i) {
    x.copy(s, i, s, 0, 1);
    return x.load(s) > 0 ? x.of(0, 1) : -1;
  }

  // ---- towns

  /** A town of people of these kinds, each with TRUST 5. */
  static NobodySaid town(int... kinds) {
    NobodySaid x = new NobodySaid();
    for (int kind : kinds) x.person(kind, 5);
    return x;
  }

  static NobodySaid lists(NobodySaid x, int... talks) {
    for (int i = 0; i < talks.length; i++) x.list(i, talks[i] / 10, talks[i] % 10);
    return x;
  }

  static void paper(NobodySaid x, int s, int bits, int... numbers) {
    x.sheet(s, bits, numbers.length);
    for (int i = 0; i < numbers.length; i++) x.write(s, i, numbers[i]);
  }

  static void feed(NobodySaid x, String text) {
    for (int i = 0; i < text.length(); i += 4) {
      int bytes = 0, n = Math.min(4, text.length() - i);
      for (int k = 0; k < n; k++) bytes = bytes << 8 | text.charAt(i + k);
      x.feed(bytes, n);
    }
  }

  static int read(NobodySaid x, String text) {
    x.wipe();
    feed(x, text);
    return x.text();
  }

  /** A town in which everything is other than at first, and other than what its image keeps. */
  static NobodySaid lived() {
    NobodySaid x = new NobodySaid();
    x.person(PERSON, 4);
    x.person(GOSSIP, 3);
    x.person(NOBODY, 7);
    x.person(CLERK, 9);
    x.person(MUTE, 6);
    x.change(4, 2, 1);
    x.saying(0, 7, 3);
    x.saying(3, 1, 6);
    x.saying(1, 2, 9);
    lists(x, 1, 12, 34, 77, 20, 31);
    x.go(6);
    x.hold(0, 1);
    x.hold(9, 3);
    x.seed(77);
    x.image();
    x.go(2);
    x.change(0, 3, 5);
    x.alter(2, 1, 8);
    x.hold(4, 2);
    x.seed(99);
    x.list(5, 0, 3);
    paper(x, 0, 8, 1, 2, 3);
    paper(x, 1, 16, 4, 5);
    paper(x, 2, 32, 6);
    feed(x, "talk 5 6 7;mute trust 2");
    return x;
  }

  /** No more people, SAYINGS or bytes can come; SPOTS and a sheet are full; the last of each is other than at first. */
  static NobodySaid full() {
    NobodySaid x = town(PERSON, GOSSIP, CLERK, JUDGE, NOBODY, MUTE, PERSON, CHILD);
    for (int i = 0; i < 6; i++) x.saying(7 - i, i, 9 - i);
    lists(x, 75, 61, 53, 40, 17, 62);
    x.change(2, 0, GOSSIP);
    x.talk(2, 7);
    x.change(2, 0, CLERK);
    x.change(7, 1, 2);
    x.change(7, 3, 3);
    x.change(7, 2, 1);
    x.image();
    x.go(9);
    for (int spot = 0; spot < 10; spot++) x.hold(spot, 7 - spot % 8);
    x.sheet(0, 8, 40);
    x.write(0, 1, 7);
    x.write(0, 39, 8);
    feed(x, "talk 1 2 3;".repeat(10) + "talk 4 5 6");
    return x;
  }

  /**
   * Goes on to a DAY. The limits of DAY and FUND are farther than the 512 calls that the document promises;
   * the class keeps its word beyond them, and only there can these limits be seen.
   */
  static NobodySaid goTo(int day, NobodySaid x) {
    for (int left = day - x.now(0); left > 0; left -= 60) x.go(Math.min(60, left));
    return x;
  }

  /** 0 tells 1 on DAY 0, 1 tells 2 on DAY 1, 2 tells 3 on DAY 2; all are persons, and nobody talks but these. */
  static NobodySaid chain() {
    NobodySaid x = town(PERSON, PERSON, PERSON, PERSON);
    x.saying(0, 7, 5);
    return lists(x, 1, 12, 23, 0, 0, 0);
  }

  /** The slowest way through seven persons: 1 hears it on DAY 5, 2 on DAY 10, and so on, 6 on DAY 30. */
  static NobodySaid slow() {
    NobodySaid x = town(PERSON, PERSON, PERSON, PERSON, PERSON, PERSON, PERSON);
    x.saying(0, 7, 5);
    return lists(x, 56, 45, 34, 23, 12, 1);
  }
}
