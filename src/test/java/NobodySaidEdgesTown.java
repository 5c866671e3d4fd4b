/** The edges of the terms 1 and 2 and of promises 1 to 12: the list, people, sayings, talks. */
public final class NobodySaidEdgesTown extends Edges {

  static void findings() {
    sentence(TERMS, "LOW is -1000001; LOW BEYOND, LOW - 1 FULL, LOW - 2 KIND, LOW - 3 NONE, LOW - 4 STATE, LOW - 5 MISSING, LOW - 6 SIZE (in longs, too)", () -> {
      NobodySaid x = full();
      due(-1000001, x.go(0));
      due(-1000002, x.person(0, 0));
      due(-1000003, x.as(0, MUTE));
      due(-1000004, x.from(0, 0));
      x.change(0, 2, 1);
      due(-1000005, x.talk(0, 1));
      due(-1000006, x.load(3));
      due(-1000007, x.sheet(0, 8, -1));
      due(-1000001L, x.odds(6, 0, 0, 0));
      for (int which = 1; which <= 6; which++) due(1, x.status(which));
      due(2, x.status(0));
    });
    sentence(TERMS, "What seed() and count(6) tell, z, may be any int: that is no finding.", () -> {
      NobodySaid x = new NobodySaid();
      int was = 1;
      for (int z : new int[] {-1000001, -1000002, -1000003, -1000004, -1000005, -1000006, -1000007, -1000008, MIN, MAX, 0, -1}) {
        due(was, x.seed(z));
        due(z, x.count(6));
        was = z;
      }
      for (int which = -1; which <= 6; which++) due(0, x.status(which));
    });
  }

  static void theList() {
    sentence(TERMS, "Sets are told as bits", () -> {
      // The last of eight people is 128, the last of six SAYINGS is 32.
      NobodySaid x = town(0, 0, 0, 0, 0, 0, 0, 0);
      due(255, x.now(6));
      for (int s = 0; s < 6; s++) x.saying(7, 0, s < 5 ? 9 : 0);
      due(128, x.ofSaying(5, 2));
      due(32, x.talk(7, 0));
      due(32, x.of(0, 4));
      due(128 + 1, x.ofSaying(5, 2));
      for (int p = 1; p < 7; p++) x.talk(7, p);
      due(32, x.now(3));
      due(255, x.ofSaying(5, 2));
    });
    sentence(TERMS, "THE LIST: six TALKS, one for DAY modulo 6", () -> {
      // Each place in turn is the only one that tells; its DAY comes, and comes again six DAYS on.
      for (int place = 0; place < 6; place++) {
        NobodySaid x = town(PERSON, PERSON, PERSON);
        x.saying(0, 7, 0);
        lists(x, 0, 0, 0, 0, 0, 0);
        x.list(place, 0, 1);
        if (place > 0) x.go(place);
        due(1, x.ofSaying(0, 2));
        x.go(1);
        due(3, x.ofSaying(0, 2));
        x.list(place, 1, 2);
        x.go(5);
        due(3, x.ofSaying(0, 2));
        x.go(1);
        due(7, x.ofSaying(0, 2));
      }
    });
    sentence(TERMS, "told as one number, 10 * A and B together (1 at first: A 0, B 1)", () -> {
      NobodySaid x = new NobodySaid();
      for (int i = 0; i < 6; i++) due(1, x.listed(i));
      for (int a = 0; a < 8; a++) {
        for (int b = 0; b < 8; b++) {
          x.list(3, a, b);
          due(10 * a + b, x.listed(3));
        }
      }
      NobodySaid y = town(PERSON, PERSON);
      y.saying(0, 7, 0);
      y.go(1);
      due(3, y.ofSaying(0, 2));
    });
    sentence(TERMS, "one of whom there is none, or who is the same: nothing is told", () -> {
      for (int talk : new int[] {0, 11, 2, 20, 7, 70, 77, 12, 22}) {
        NobodySaid x = town(GOSSIP, GOSSIP);
        x.saying(0, 7, 0);
        lists(x, talk, talk, talk, talk, talk, talk);
        due(0, x.go(60));
        due(1, x.ofSaying(0, 2));
      }
      // The last one who is there can tell and be told.
      NobodySaid x = town(GOSSIP, GOSSIP, GOSSIP, GOSSIP, GOSSIP, GOSSIP, GOSSIP, GOSSIP);
      x.saying(0, 7, 0);
      lists(x, 7, 71, 0, 0, 0, 0);
      x.go(2);
      due(1 + 128 + 2, x.ofSaying(0, 2));
      due(0, new NobodySaid().go(60));
    });
    sentence(2, "in place i (0 to 5)", () -> {
      for (int i = 0; i <= 5; i++) {
        NobodySaid x = new NobodySaid();
        due(1, x.list(i, 7, 6));
        for (int k = 0; k < 6; k++) due(k == i ? 76 : 1, x.listed(k));
      }
      refuses(BEYOND, Edges::lived, (x, v) -> x.list(v, 3, 2), -1, 6, 7, MIN, MAX);
    });
    sentence(2, "a TALK of A to B (0 to 7 each)", () -> {
      takes(Edges::lived, (x, v) -> x.list(0, v, 0), 0, 7);
      takes(Edges::lived, (x, v) -> x.list(0, 0, v), 0, 7);
      refuses(BEYOND, Edges::lived, (x, v) -> x.list(0, v, 0), -1, 8, 10, MIN, MAX);
      refuses(BEYOND, Edges::lived, (x, v) -> x.list(5, 0, v), -1, 8, 10, MIN, MAX);
    });
    sentence(2, "which it was (10 * A and B). BEYOND.", () -> {
      NobodySaid x = new NobodySaid();
      due(1, x.list(5, 7, 7));
      due(77, x.list(5, 0, 0));
      due(0, x.list(5, 0, 7));
      due(7, x.list(5, 7, 0));
      due(70, x.list(5, 7, 0));
      due(70, x.listed(5));
    });
    sentence(3, "The TALK in a place of THE LIST. BEYOND.", () -> {
      NobodySaid x = lists(new NobodySaid(), 0, 17, 20, 33, 46, 77);
      int[] told = {0, 17, 20, 33, 46, 77};
      for (int i = 0; i <= 5; i++) due(told[i], x.listed(i));
      refuses(BEYOND, Edges::lived, (y, v) -> y.listed(v), -1, 6, MIN, MAX);
      changesNothing(Edges::lived, y -> y.listed(0));
    });
  }

  static void newObject() {
    sentence(1, "All as at first", () -> {
      NobodySaid x = new NobodySaid();
      for (int i = 0; i < 6; i++) due(1, x.listed(i));
      all(0, x.now(0), x.now(1), x.now(2), x.now(3), x.now(4), x.now(6), x.now(7));
      due(1, x.count(6));
      for (int spot = 0; spot < 10; spot++) due(MISSING, x.as(spot, PERSON));
      for (int s = 0; s < 4; s++) all(MISSING, x.load(s), x.judge(s), x.write(s, 0, 0), x.copy(s, 0, s, 0, 0));
      NobodySaid y = new NobodySaid();
      for (int which = -1; which <= 6; which++) due(0, y.status(which));
    });
    sentence(1, "nobody is there, no SAYINGS", () -> {
      NobodySaid x = new NobodySaid();
      all(0, x.count(1), x.count(2));
      all(BEYOND, x.of(0, 0), x.ofSaying(0, 0), x.saying(0, 0, 0), x.talk(0, 1), x.hold(0, 0));
      due(-1, x.now(5));
    });
    sentence(1, "THE TAPE is empty, no image is kept", () -> {
      NobodySaid x = new NobodySaid();
      due(0, x.count(5));
      due(0, x.wipe());
      due(-1, x.text());
      due(NONE, x.undo());
      due(0, x.tear());
    });
    sentence(1, "All as at first", () -> {
      // Two objects have nothing in common.
      NobodySaid one = lived(), other = new NobodySaid();
      same(print(new NobodySaid()), print(other));
      same(print(lived()), print(one));
    });
  }

  static void people() {
    sentence(TERMS, "of KINDS: 0 PERSON; 1 GOSSIP, 2 CLERK, 5 MUTE under PERSON; 3 JUDGE under CLERK; 4 NOBODY under JUDGE; 6 CHILD under GOSSIP", () -> {
      int[] above = {-1, PERSON, PERSON, CLERK, JUDGE, PERSON, GOSSIP};
      for (int kind = 0; kind < 7; kind++) {
        NobodySaid x = town(kind);
        x.hold(0, 0);
        int ways = 0;
        for (int at = kind; at >= 0; at = above[at]) ways |= 1 << at;
        for (int asked = 0; asked < 7; asked++) due((ways >> asked & 1) == 1 ? 0 : KIND, x.as(0, asked));
      }
    });
    sentence(TERMS, "PEOPLE 0, 1, .. (at most 8)", () -> {
      NobodySaid x = new NobodySaid();
      for (int p = 0; p < 8; p++) due(p, x.person(p % 7, 9 - p));
      due(FULL, x.person(0, 5));
      due(8, x.count(1));
      for (int p = 0; p < 8; p++) due(p % 7, x.of(p, 0));
    });
    sentence(TERMS, "QUIET or not (1, 0; 0 at first), BLAMED (how often; 0 to 9999; 0 at first)", () -> {
      NobodySaid x = new NobodySaid();
      for (int p = 0; p < 8; p++) {
        x.person(6, 9);
        all(0, x.of(p, 2), x.of(p, 3));
      }
    });
    sentence(TERMS, "each with TRUST (0 to 9; 5 at first)", () -> {
      NobodySaid x = new NobodySaid();
      due(1, read(x, "person"));
      due(5, x.of(0, 1));
    });
    sentence(4, "A new one with TRUST: the number. BEYOND.", () -> {
      takes(Edges::lived, (x, v) -> x.person(v, 5), 0, 1, 2, 3, 4, 5, 6);
      takes(Edges::lived, (x, v) -> x.person(0, v), 0, 9);
      refuses(BEYOND, Edges::lived, (x, v) -> x.person(v, 5), -1, 7, MIN, MAX);
      refuses(BEYOND, Edges::lived, (x, v) -> x.person(0, v), -1, 10, MIN, MAX);
      NobodySaid x = lived();
      due(5, x.person(JUDGE, 0));
      due(6, x.person(CHILD, 9));
      due(JUDGE, x.of(5, 0));
      due(0, x.of(5, 1));
      due(CHILD, x.of(6, 0));
      due(9, x.of(6, 1));
      all(0, x.of(5, 2), x.of(5, 3), x.of(5, 4), x.of(6, 4));
    });
    sentence(4, "BEYOND. FULL.", () -> {
      refuses(FULL, Edges::full, x -> x.person(0, 0));
      refuses(FULL, Edges::full, x -> x.person(6, 9));
      refuses(BEYOND, Edges::full, x -> x.person(7, 9));
      refuses(BEYOND, Edges::full, x -> x.person(6, 10));
      refuses(BEYOND, Edges::full, x -> x.person(-1, -1));
      // The eighth still comes.
      due(7, town(0, 0, 0, 0, 0, 0, 0).person(0, 0));
    });
    sentence(6, "what 0 KIND, 1 TRUST, 2 QUIET, 3 BLAMED, 4 SAYINGS that he HEARD, as a set", () -> {
      NobodySaid x = full();
      x.change(7, 3, 9999);
      x.change(7, 2, 1);
      x.change(7, 1, 9);
      due(CHILD, x.of(7, 0));
      due(9, x.of(7, 1));
      due(1, x.of(7, 2));
      due(9999, x.of(7, 3));
      NobodySaid y = town(PERSON, PERSON);
      due(0, y.of(0, 4));
      for (int i = 0; i < 6; i++) {
        y.saying(i % 2, 7, 0);
        due(new int[] {1, 1, 5, 5, 21, 21}[i], y.of(0, 4));
        due(new int[] {0, 2, 2, 10, 10, 42}[i], y.of(1, 4));
      }
      y.talk(0, 1);
      due(63, y.of(1, 4));
    });
    sentence(6, "BEYOND.", () -> {
      refuses(BEYOND, Edges::lived, (x, v) -> x.of(v, 0), -1, 5, 8, MIN, MAX);
      refuses(BEYOND, Edges::full, (x, v) -> x.of(v, 4), -1, 8, MIN, MAX);
      refuses(BEYOND, Edges::lived, (x, v) -> x.of(4, v), -1, 5, MIN, MAX);
      refuses(BEYOND, NobodySaid::new, x -> x.of(0, 0));
      takes(Edges::lived, (x, v) -> x.of(v, 4), 0, 4);
      changesNothing(Edges::lived, x -> x.of(4, 3));
    });
  }

  /** What becomes of the last value that is taken on each side, and of the first that is refused. */
  private static void changeBounds(int what, int most) {
    for (int p : new int[] {0, 7}) {
      NobodySaid x = full();
      x.change(p, what, 0);
      due(0, x.change(p, what, most));
      due(most, x.of(p, what));
      due(most, x.change(p, what, 0));
      due(0, x.of(p, what));
      refuses(BEYOND, Edges::full, (y, v) -> y.change(p, what, v), -1, most + 1, MIN, MAX);
    }
  }

  static void change() {
    sentence(7, "KIND (what 0), TRUST (1), QUIET (2), BLAMED (3) of one becomes v: what it was", () -> changeBounds(0, 6));
    sentence(7, "TRUST (1)", () -> changeBounds(1, 9));
    sentence(7, "QUIET (2)", () -> changeBounds(2, 1));
    sentence(7, "BLAMED (3)", () -> changeBounds(3, 9999));
    sentence(7, "BEYOND.", () -> {
      refuses(BEYOND, Edges::lived, (x, v) -> x.change(v, 1, 0), -1, 5, 8, MIN, MAX);
      refuses(BEYOND, Edges::full, (x, v) -> x.change(v, 1, 0), -1, 8);
      // What he HEARD can't be changed so.
      refuses(BEYOND, Edges::lived, (x, v) -> x.change(0, v, 0), -1, 4, 5, MIN, MAX);
      refuses(BEYOND, NobodySaid::new, x -> x.change(0, 0, 0));
    });
    sentence(7, "of one becomes v", () -> {
      // He alone, and this alone.
      for (int what = 0; what <= 3; what++) {
        NobodySaid x = full();
        x.change(3, what, 1);
        for (int p = 0; p < 8; p++) {
          for (int k = 0; k <= 4; k++) if (p != 3 || k != what) due(full().of(p, k), x.of(p, k));
        }
      }
    });
  }

  static void sayings() {
    sentence(TERMS, "SAYINGS 0, 1, .. (at most 6): each ABOUT one of PEOPLE (0 to 7, there or not), of a WEIGHT (0 to 9)", () -> {
      NobodySaid x = town(PERSON);
      for (int s = 0; s < 6; s++) due(s, x.saying(0, s + 2, 9 - s));
      due(FULL, x.saying(0, 0, 0));
      for (int s = 0; s < 6; s++) {
        due(s + 2, x.ofSaying(s, 0));
        due(9 - s, x.ofSaying(s, 1));
      }
      due(6, x.count(2));
    });
    sentence(TERMS, "-1: he began it; 8: from nobody in particular", () -> {
      NobodySaid x = town(PERSON, GOSSIP, PERSON);
      x.saying(0, 7, 0);
      x.talk(0, 1);
      x.talk(1, 2);
      due(-1, x.from(0, 0));
      due(8, x.from(0, 1));
      due(1, x.from(0, 2));
    });
    sentence(5, "A new SAYING, begun by one, ABOUT one (0 to 7), of a WEIGHT: its number. BEYOND.", () -> {
      takes(Edges::lived, (x, v) -> x.saying(v, 0, 0), 0, 4);
      takes(Edges::lived, (x, v) -> x.saying(0, v, 0), 0, 7);
      takes(Edges::lived, (x, v) -> x.saying(0, 0, v), 0, 9);
      refuses(BEYOND, Edges::lived, (x, v) -> x.saying(v, 0, 0), -1, 5, 8, MIN, MAX);
      refuses(BEYOND, Edges::lived, (x, v) -> x.saying(0, v, 0), -1, 8, MIN, MAX);
      refuses(BEYOND, Edges::lived, (x, v) -> x.saying(0, 0, v), -1, 10, MIN, MAX);
      NobodySaid x = lived();
      due(3, x.saying(4, 4, 9));
      due(16, x.ofSaying(3, 2));
      due(-1, x.from(3, 4));
      due(4, x.saying(0, 7, 0));
      due(7, x.ofSaying(4, 0));
      due(0, x.ofSaying(4, 1));
    });
    sentence(5, "BEYOND. FULL.", () -> {
      refuses(FULL, Edges::full, x -> x.saying(0, 0, 0));
      refuses(FULL, Edges::full, x -> x.saying(7, 7, 9));
      refuses(BEYOND, Edges::full, x -> x.saying(8, 7, 9));
      refuses(BEYOND, Edges::full, x -> x.saying(7, 8, 9));
      refuses(BEYOND, Edges::full, x -> x.saying(7, 7, 10));
      NobodySaid x = town(PERSON);
      for (int i = 0; i < 5; i++) x.saying(0, 0, 0);
      due(5, x.saying(0, 0, 0));
    });
    sentence(8, "what 0 ABOUT, 1 WEIGHT, 2 who HEARD it, as a set. BEYOND.", () -> {
      NobodySaid x = town(0, 0, 0, 0, 0, 0, 0, 0);
      x.saying(7, 0, 5);
      due(0, x.ofSaying(0, 0));
      due(5, x.ofSaying(0, 1));
      due(128, x.ofSaying(0, 2));
      for (int p = 0; p < 7; p++) x.talk(7, p);
      due(255, x.ofSaying(0, 2));
      refuses(BEYOND, Edges::lived, (y, v) -> y.ofSaying(v, 0), -1, 3, 6, MIN, MAX);
      refuses(BEYOND, Edges::full, (y, v) -> y.ofSaying(v, 0), -1, 6);
      refuses(BEYOND, Edges::lived, (y, v) -> y.ofSaying(2, v), -1, 3, MIN, MAX);
      takes(Edges::full, (y, v) -> y.ofSaying(v, 2), 0, 5);
      changesNothing(Edges::lived, y -> y.ofSaying(2, 2));
    });
    sentence(9, "ABOUT (what 0), WEIGHT (1) of a SAYING becomes v: what it was. BEYOND.", () -> {
      for (int what = 0; what <= 1; what++) {
        int most = what == 0 ? 7 : 9, k = what;
        NobodySaid x = full();
        x.alter(5, what, 0);
        due(0, x.alter(5, what, most));
        due(most, x.ofSaying(5, what));
        due(most, x.alter(5, what, 0));
        due(0, x.ofSaying(5, what));
        for (int s = 0; s < 5; s++) all(full().ofSaying(s, what), x.ofSaying(s, what));
        due(full().ofSaying(5, 1 - what), x.ofSaying(5, 1 - what));
        due(full().ofSaying(5, 2), x.ofSaying(5, 2));
        refuses(BEYOND, Edges::full, (y, v) -> y.alter(5, k, v), -1, most + 1, MIN, MAX);
      }
      refuses(BEYOND, Edges::lived, (y, v) -> y.alter(v, 0, 0), -1, 3, 6, MIN, MAX);
      refuses(BEYOND, Edges::full, (y, v) -> y.alter(v, 0, 0), -1, 6);
      // Who HEARD it can't be altered so.
      refuses(BEYOND, Edges::lived, (y, v) -> y.alter(0, v, 0), -1, 2, 3, MIN, MAX);
    });
  }

  static void fromWhom() {
    sentence(10, "FROM whom one has a SAYING (-1: he began it; 8: nobody). BEYOND. NONE: he hasn't HEARD it.", () -> {
      NobodySaid x = town(PERSON, PERSON, PERSON, PERSON, PERSON, PERSON, PERSON, PERSON);
      x.saying(0, 7, 0);
      x.saying(7, 0, 0);
      due(-1, x.from(0, 0));
      due(-1, x.from(1, 7));
      x.talk(0, 7);
      x.talk(7, 0);
      due(0, x.from(0, 7));
      due(7, x.from(1, 0));
      refuses(NONE, Edges::lived, y -> y.from(0, 4));
      refuses(NONE, Edges::lived, y -> y.from(2, 4));
      refuses(BEYOND, Edges::lived, (y, v) -> y.from(v, 0), -1, 3, 6, MIN, MAX);
      refuses(BEYOND, Edges::lived, (y, v) -> y.from(0, v), -1, 5, 8, MIN, MAX);
      refuses(BEYOND, Edges::full, (y, v) -> y.from(0, v), -1, 8);
      refuses(BEYOND, Edges::full, (y, v) -> y.from(v, 7), -1, 6);
      changesNothing(Edges::lived, y -> y.from(0, 0));
    });
    sentence(TERMS, "to FROM whom he has it, to FROM whom that one has it, and so on, till one who began it (that one)", () -> {
      // The longest way: all eight.
      NobodySaid x = town(0, 0, 0, 0, 0, 0, 0, 0);
      x.saying(0, 7, 0);
      for (int p = 1; p < 8; p++) {
        due(1, x.talk(p - 1, p));
        for (int q = 0; q <= p; q++) due(0, x.traced(0, q));
      }
      NobodySaid y = town(0, 0, 0, 0, 0, 0, 0, 0);
      y.saying(7, 0, 0);
      for (int p = 6; p >= 0; p--) due(1, y.talk(p + 1, p));
      for (int p = 0; p < 8; p++) due(7, y.traced(0, p));
    });
    sentence(TERMS, "or nobody (8)", () -> {
      // A gossip in the midst of it: from there on it is traced to nobody.
      NobodySaid x = town(PERSON, PERSON, GOSSIP, PERSON, PERSON);
      x.saying(0, 7, 0);
      for (int p = 1; p < 5; p++) x.talk(p - 1, p);
      all(0, x.traced(0, 0), x.traced(0, 1));
      all(8, x.traced(0, 2), x.traced(0, 3), x.traced(0, 4));
    });
    sentence(11, "To whom a SAYING is TRACED from one (8: nobody). BEYOND. NONE: he hasn't HEARD it.", () -> {
      // He who began it is traced to himself, of whatever kind.
      for (int kind = 0; kind < 7; kind++) {
        NobodySaid x = town(PERSON, kind);
        x.saying(1, 7, 0);
        due(1, x.traced(0, 1));
        due(NONE, x.traced(0, 0));
      }
      refuses(NONE, Edges::lived, x -> x.traced(0, 4));
      refuses(NONE, Edges::lived, x -> x.traced(2, 4));
      refuses(BEYOND, Edges::lived, (x, v) -> x.traced(v, 0), -1, 3, 6, MIN, MAX);
      refuses(BEYOND, Edges::lived, (x, v) -> x.traced(0, v), -1, 5, 8, MIN, MAX);
      refuses(BEYOND, Edges::full, (x, v) -> x.traced(0, v), -1, 8);
      refuses(BEYOND, Edges::full, (x, v) -> x.traced(v, 7), -1, 6);
      changesNothing(Edges::lived, x -> x.traced(0, 0));
    });
  }

  /** Whether 1, of a kind, tells 0 a SAYING of a WEIGHT ABOUT 0 the other, 1 himself, 2 or 7 another. */
  private static int tells(int kind, int about, int weight) {
    NobodySaid x = town(GOSSIP, kind);
    x.saying(1, about, weight);
    return x.talk(1, 0);
  }

  private static void tellsAs(int kind, int from, int aboutOther, int aboutSelf, int aboutAnother) {
    for (int weight = 0; weight <= 9; weight++) {
      int tells = weight >= from ? 1 : 0;
      due(tells * aboutOther, tells(kind, 0, weight));
      due(tells * aboutSelf, tells(kind, 1, weight));
      all(tells * aboutAnother, tells(kind, 2, weight), tells(kind, 7, weight));
    }
  }

  static void telling() {
    sentence(TERMS, "PERSON: if it isn't ABOUT himself. GOSSIP: yes.", () -> tellsAs(PERSON, 0, 1, 0, 1));
    sentence(TERMS, "GOSSIP: yes. CHILD: if it isn't ABOUT B.", () -> tellsAs(GOSSIP, 0, 1, 1, 1));
    sentence(TERMS, "CHILD: if it isn't ABOUT B.", () -> tellsAs(CHILD, 0, 0, 1, 1));
    sentence(TERMS, "CLERK: if its WEIGHT is 5 or more.", () -> tellsAs(CLERK, 5, 1, 1, 1));
    sentence(TERMS, "JUDGE: as a CLERK, but not, if it is ABOUT B.", () -> tellsAs(JUDGE, 5, 0, 1, 1));
    sentence(TERMS, "NOBODY: no, unless it is ABOUT himself.", () -> tellsAs(NOBODY, 0, 0, 1, 0));
    sentence(TERMS, "MUTE: no.", () -> tellsAs(MUTE, 10, 0, 0, 0));
  }

  /** Whether 1, of a kind and with a TRUST, takes from 0 on a DAY a SAYING of a WEIGHT ABOUT somebody. */
  private static int believes(int kind, int trust, int about, int weight, int day) {
    NobodySaid x = town(GOSSIP);
    x.person(kind, trust);
    x.saying(0, about, weight);
    lists(x, 0, 0, 0, 0, 0, 0);
    if (day > 0) x.go(day);
    return x.talk(0, 1);
  }

  private interface Belief { boolean holds(int trust, int about, int weight, int day); }

  private static void believesAs(int kind, Belief belief) {
    for (int trust : new int[] {0, 1, 4, 5, 8, 9}) {
      for (int weight = 0; weight <= 9; weight++) {
        for (int about : new int[] {0, 1, 7}) {
          for (int day = 0; day <= 2; day++) {
            due(belief.holds(trust, about, weight, day) ? 1 : 0, believes(kind, trust, about, weight, day));
          }
        }
      }
    }
  }

  static void believing() {
    sentence(TERMS, "PERSON: if WEIGHT isn't above his TRUST.", () -> believesAs(PERSON, (trust, about, weight, day) -> weight <= trust));
    sentence(TERMS, "GOSSIP: yes. CHILD: if WEIGHT is odd", () -> believesAs(GOSSIP, (trust, about, weight, day) -> true));
    sentence(TERMS, "CHILD: if WEIGHT is odd, or isn't above his TRUST.", () -> believesAs(CHILD, (trust, about, weight, day) -> weight % 2 == 1 || weight <= trust));
    sentence(TERMS, "CLERK: as a PERSON, but not, if it is ABOUT himself.", () -> believesAs(CLERK, (trust, about, weight, day) -> weight <= trust && about != 1));
    sentence(TERMS, "JUDGE: as a CLERK, if DAY is even, else no.", () -> believesAs(JUDGE, (trust, about, weight, day) -> weight <= trust && about != 1 && day != 1));
    sentence(TERMS, "NOBODY: yes.", () -> believesAs(NOBODY, (trust, about, weight, day) -> true));
    sentence(TERMS, "MUTE: as a PERSON.", () -> believesAs(MUTE, (trust, about, weight, day) -> weight <= trust));
  }

  static void naming() {
    sentence(TERMS, "PERSON: A. GOSSIP: nobody (8). CHILD: A. CLERK, JUDGE: A. NOBODY: nobody (8). MUTE: nobody (8).", () -> {
      int[] names = {7, 8, 7, 7, 8, 8, 7};
      for (int kind = 0; kind < 7; kind++) {
        NobodySaid x = town(kind, 0, 0, 0, 0, 0, 0, GOSSIP);
        x.saying(7, 3, 0);
        due(1, x.talk(7, 0));
        due(names[kind], x.from(0, 0));
        // It stays so, whatever becomes of him, and from whomever he might have it again.
        x.change(0, 0, (kind + 1) % 7);
        x.talk(7, 0);
        due(names[kind], x.from(0, 0));
      }
      // A 0 is told as 0.
      NobodySaid y = town(GOSSIP, PERSON);
      y.saying(0, 7, 0);
      y.talk(0, 1);
      due(0, y.from(0, 1));
    });
  }

  static void talks() {
    sentence(TERMS, "if A TELLS it and B BELIEVES it, B HEARD it from then on, FROM whom B NAMES", () -> {
      // 0 tells all but the last, which is ABOUT himself; 1 takes all but the second, which is above his TRUST.
      NobodySaid x = town(PERSON, CLERK, PERSON);
      x.saying(0, 2, 5);
      x.saying(0, 2, 6);
      x.saying(0, 2, 0);
      x.saying(0, 0, 0);
      due(1 + 4, x.talk(0, 1));
      due(NONE, x.from(1, 1));
      due(NONE, x.from(3, 1));
      all(0, x.from(0, 1), x.from(2, 1));
      // The clerk tells the heavy one alone, and it is his from then on, whatever becomes of it.
      due(1, x.talk(1, 2));
      due(1, x.from(0, 2));
      x.alter(0, 1, 9);
      x.alter(0, 0, 1);
      due(7, x.ofSaying(0, 2));
      due(1, x.from(0, 2));
      due(0, x.from(0, 1));
    });
    sentence(TERMS, "A TALK of A to B (if neither A nor B is QUIET)", () -> {
      for (int quiet = 0; quiet < 4; quiet++) {
        NobodySaid x = town(GOSSIP, GOSSIP, GOSSIP);
        x.saying(0, 7, 0);
        x.change(0, 2, quiet & 1);
        x.change(1, 2, quiet >> 1);
        x.go(1);
        due(quiet == 0 ? 3 : 1, x.ofSaying(0, 2));
      }
      // A third one's QUIET is nothing to them.
      NobodySaid x = town(GOSSIP, GOSSIP, GOSSIP);
      x.saying(0, 7, 0);
      x.change(2, 2, 1);
      x.go(1);
      due(3, x.ofSaying(0, 2));
    });
    sentence(TERMS, "SAYINGS by numbers: one that A HEARD and B didn't", () -> {
      NobodySaid x = town(GOSSIP, GOSSIP);
      for (int s = 0; s < 6; s++) x.saying(s % 2, 7, 0);
      due(1 + 4 + 16, x.talk(0, 1));
      // What B told isn't A's by that, and what A told already isn't told again.
      due(1 + 4 + 16, x.of(0, 4));
      due(0, x.talk(0, 1));
      due(-1, x.from(1, 1));
      due(63, x.of(1, 4));
      due(2 + 8 + 32, x.talk(1, 0));
      due(0, x.talk(1, 0));
      due(-1, x.from(0, 0));
    });
    sentence(12, "SAYINGS that B came to HEAR, as a set", () -> {
      NobodySaid x = town(PERSON, PERSON);
      due(0, x.talk(0, 1));
      for (int s = 0; s < 6; s++) x.saying(0, 7, 3 + s);
      // TRUST 5: those of WEIGHT 3, 4 and 5.
      due(7, x.talk(0, 1));
      x.change(1, 1, 9);
      due(7 * 8, x.talk(0, 1));
      due(63, x.of(1, 4));
      due(0, x.talk(0, 1));
    });
    sentence(12, "A talks to B now, besides (as in 2)", () -> {
      // THE LIST, DAY and FUND have no part in it.
      NobodySaid x = chain();
      due(1, x.talk(0, 3));
      due(0, x.now(0));
      due(1, x.listed(0));
      due(9, x.ofSaying(0, 2));
      due(0, x.now(1));
    });
    sentence(12, "BEYOND: also one and the same.", () -> {
      refuses(BEYOND, Edges::lived, (x, v) -> x.talk(v, 1), -1, 5, 8, MIN, MAX);
      refuses(BEYOND, Edges::lived, (x, v) -> x.talk(1, v), -1, 5, 8, MIN, MAX);
      refuses(BEYOND, Edges::lived, (x, v) -> x.talk(v, v), 0, 1, 2, 3, 4);
      refuses(BEYOND, Edges::full, (x, v) -> x.talk(v, 0), -1, 8);
      refuses(BEYOND, Edges::full, (x, v) -> x.talk(0, v), -1, 8);
      refuses(BEYOND, NobodySaid::new, x -> x.talk(0, 1));
      takes(() -> town(0, 0, 0, 0, 0, 0, 0, 0), (x, v) -> x.talk(7, v), 0, 6);
      takes(() -> town(0, 0, 0, 0, 0, 0, 0, 0), (x, v) -> x.talk(v, 7), 0, 6);
    });
    sentence(12, "STATE: one is QUIET.", () -> {
      // 4 is QUIET in this town; then 0 is, too.
      refuses(STATE, Edges::lived, (x, v) -> x.talk(4, v), 0, 3);
      refuses(STATE, Edges::lived, (x, v) -> x.talk(v, 4), 0, 3);
      NobodySaid x = lived();
      x.change(0, 2, 1);
      due(STATE, x.talk(0, 4));
      x.change(4, 2, 0);
      due(STATE, x.talk(0, 4));
      x.change(0, 2, 0);
      due(0, x.talk(4, 0));
    });
  }

  public static void main(String[] args) {
    findings();
    theList();
    newObject();
    people();
    change();
    sayings();
    fromWhom();
    telling();
    believing();
    naming();
    talks();
    end();
  }
}
