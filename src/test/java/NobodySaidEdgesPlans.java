/** The edges of promises 20 to 29: whom to tell, told hearers, evenings. */
public final class NobodySaidEdgesPlans extends Edges {

  static void beginners() {
    sentence(20, "so that most HEARD it behind n (0 to 60) DAYS", () -> {
      NobodySaid x = chain();
      // 3 tells 2 on DAY 0, 2 tells 1 on DAY 1.
      lists(x, 32, 21, 0, 0, 0, 0);
      due(0, x.beginner(0, 0));
      due(3, x.beginner(0, 1));
      due(3, x.beginner(0, 2));
      due(3, x.beginner(0, 60));
      // 2 tells 3 on DAY 5, so he is better behind 6 DAYS, and not behind 5.
      lists(x, 0, 0, 0, 0, 0, 23);
      due(0, x.beginner(0, 5));
      due(2, x.beginner(0, 6));
    });
    sentence(20, "(he alone HEARD it now, and began it)", () -> {
      NobodySaid x = town(PERSON, PERSON, PERSON);
      x.saying(0, 7, 5);
      x.talk(0, 1);
      x.talk(0, 2);
      lists(x, 0, 0, 21, 0, 0, 0);
      due(7, x.ofSaying(0, 2));
      due(2, x.beginner(0, 60));
      // Nobody HEARD it but him behind 0 DAYS: all are as good.
      due(0, x.beginner(0, 0));
      due(7, x.ofSaying(0, 2));
    });
    sentence(TERMS, "of several that would do the least number counts, where nothing else is told", () -> {
      NobodySaid x = town(0, 0, 0, 0, 0, 0, 0, 0);
      x.saying(7, 0, 0);
      lists(x, 0, 0, 0, 0, 0, 0);
      due(0, x.beginner(0, 60));
      lists(x, 76, 54, 0, 0, 0, 0);
      due(5, x.beginner(0, 60));
      lists(x, 54, 76, 67, 45, 0, 0);
      due(4, x.beginner(0, 60));
      due(0, x.kindFor(0, 60));
    });
    sentence(20, "BEYOND. NONE: nobody is there.", () -> {
      // While nobody is there no SAYING is, either, and that is asked first.
      refuses(BEYOND, NobodySaid::new, x -> x.beginner(0, 0));
      refuses(BEYOND, () -> town(PERSON), x -> x.beginner(0, 0));
      refuses(BEYOND, Edges::lived, (x, v) -> x.beginner(v, 1), -1, 3, 6, MIN, MAX);
      refuses(BEYOND, Edges::full, (x, v) -> x.beginner(v, 1), -1, 6);
      refuses(BEYOND, Edges::lived, (x, v) -> x.beginner(0, v), -1, 61, MIN, MAX);
      takes(Edges::full, (x, v) -> x.beginner(5, v), 0, 60);
      changesNothing(Edges::lived, x -> x.beginner(0, 60));
      changesNothing(Edges::full, x -> x.beginner(5, 60));
    });
  }

  /** One meets 5, a GOSSIP, so that what he tells is traced to nobody, and then 7, a PERSON, who names him. */
  private static NobodySaid meeting(int p, int trust) {
    NobodySaid x = town(PERSON, PERSON, PERSON, PERSON, PERSON, GOSSIP, PERSON, PERSON);
    x.change(7, 1, trust);
    return lists(x, 10 * p + 5, 10 * p + 7, 0, 0, 0, 0);
  }

  static void kindsFor() {
    sentence(21, "so that his BLAMED is least behind n (0 to 60) DAYS", () -> {
      // SAYING 3, ABOUT 0, is tried on DAYS 23 and 59. A gossip tells it on, and on DAY 30 it comes to 6, who
      // names nobody; a person keeps it. On DAY 23 both are blamed.
      NobodySaid x = town(PERSON, PERSON, PERSON, PERSON, PERSON, PERSON, GOSSIP, PERSON);
      for (int s = 0; s < 3; s++) x.saying(7, 1, 5);
      x.saying(0, 0, 4);
      lists(x, 56, 45, 34, 23, 12, 1);
      due(0, x.kindFor(0, 0));
      due(0, x.kindFor(0, 59));
      due(GOSSIP, x.kindFor(0, 60));
      due(PERSON, x.of(0, 0));
    });
    sentence(21, "The KIND of which one must be", () -> {
      // He who began nothing is best a PERSON, who isn't blamed for what nobody said.
      NobodySaid x = town(PERSON, GOSSIP, NOBODY);
      x.saying(0, 7, 9);
      lists(x, 1, 12, 0, 0, 0, 0);
      due(1, x.ahead(2, 3, 6));
      due(PERSON, x.kindFor(2, 60));
      // ABOUT himself and light: he must be one who tells it to 1, a MUTE.
      NobodySaid y = town(CLERK, MUTE);
      y.saying(0, 0, 0);
      due(PERSON, y.kindFor(0, 5));
      due(GOSSIP, y.kindFor(0, 6));
      // A CLERK tells the heavy one, ABOUT himself, which 7 doesn't take; and not the light one, which 5 HEARD.
      NobodySaid clerk = meeting(0, 4);
      clerk.saying(0, 0, 5);
      clerk.saying(0, 1, 4);
      due(2, clerk.talk(0, 5));
      due(CLERK, clerk.kindFor(0, 12));
      // A JUDGE doesn't tell 7 what is ABOUT him, nor does a CHILD, if it is light.
      NobodySaid judge = meeting(0, 9);
      judge.saying(0, 7, 5);
      due(JUDGE, judge.kindFor(0, 6));
      judge.alter(0, 1, 4);
      due(CHILD, judge.kindFor(0, 6));
      // A NOBODY tells what is ABOUT himself alone; there is another one who is blamed for it.
      NobodySaid nobody = meeting(1, 3);
      nobody.change(0, 0, NOBODY);
      nobody.saying(1, 1, 4);
      nobody.saying(1, 2, 3);
      due(2, nobody.talk(1, 5));
      due(NOBODY, nobody.kindFor(1, 12));
      // A MUTE doesn't tell 7 anything; and as a NOBODY he'd be blamed.
      NobodySaid mute = meeting(0, 9);
      mute.saying(0, 1, 5);
      due(1, mute.talk(0, 5));
      due(MUTE, mute.kindFor(0, 6));
    });
    sentence(21, "BEYOND.", () -> {
      refuses(BEYOND, Edges::lived, (x, v) -> x.kindFor(v, 1), -1, 5, 8, MIN, MAX);
      refuses(BEYOND, Edges::full, (x, v) -> x.kindFor(v, 1), -1, 8);
      refuses(BEYOND, Edges::lived, (x, v) -> x.kindFor(0, v), -1, 61, MIN, MAX);
      refuses(BEYOND, NobodySaid::new, x -> x.kindFor(0, 0));
      takes(Edges::full, (x, v) -> x.kindFor(7, v), 0, 60);
      changesNothing(Edges::lived, x -> x.kindFor(1, 60));
      changesNothing(Edges::full, x -> x.kindFor(7, 60));
      // BLAMED 9999 for all kinds alike.
      NobodySaid x = town(PERSON);
      x.saying(0, 0, 0);
      x.change(0, 3, 9999);
      due(0, x.kindFor(0, 60));
    });
  }

  static void trustsFor() {
    sentence(22, "The least TRUST with which one HEARD a SAYING behind n (0 to 60) DAYS.", () -> {
      for (int weight = 0; weight <= 9; weight++) {
        NobodySaid x = chain();
        x.alter(0, 1, weight);
        x.change(1, 1, 9);
        due(0, x.trustFor(0, 0, 0));
        due(NONE, x.trustFor(0, 1, 0));
        due(weight, x.trustFor(0, 1, 1));
        due(weight, x.trustFor(0, 1, 60));
        due(NONE, x.trustFor(0, 2, 1));
        due(weight, x.trustFor(0, 2, 2));
        x.change(1, 0, CHILD);
        due(weight % 2 == 1 ? 0 : weight, x.trustFor(0, 1, 60));
        x.change(1, 0, NOBODY);
        due(0, x.trustFor(0, 1, 60));
        due(9, x.of(1, 1));
      }
      NobodySaid y = slow();
      due(NONE, y.trustFor(0, 6, 30));
      due(5, y.trustFor(0, 6, 31));
    });
    sentence(22, "BEYOND. NONE.", () -> {
      refuses(NONE, Edges::lived, x -> x.trustFor(0, 4, 60));
      refuses(NONE, Edges::lived, x -> x.trustFor(2, 4, 0));
      refuses(BEYOND, Edges::lived, (x, v) -> x.trustFor(v, 0, 1), -1, 3, 6, MIN, MAX);
      refuses(BEYOND, Edges::lived, (x, v) -> x.trustFor(0, v, 1), -1, 5, 8, MIN, MAX);
      refuses(BEYOND, Edges::full, (x, v) -> x.trustFor(v, 0, 1), -1, 6);
      refuses(BEYOND, Edges::full, (x, v) -> x.trustFor(0, v, 1), -1, 8);
      refuses(BEYOND, Edges::lived, (x, v) -> x.trustFor(0, 0, v), -1, 61, MIN, MAX);
      takes(Edges::lived, (x, v) -> x.trustFor(0, 0, v), 0, 60);
      changesNothing(Edges::lived, x -> x.trustFor(1, 0, 60));
      changesNothing(Edges::full, x -> x.trustFor(5, 7, 60));
    });
  }

  static void weightsFor() {
    sentence(23, "The greatest WEIGHT with which all HEARD a SAYING behind n (0 to 60) DAYS.", () -> {
      for (int trust = 0; trust <= 9; trust++) {
        NobodySaid x = chain();
        for (int p = 0; p < 4; p++) x.change(p, 1, p == 3 ? trust : 9);
        due(NONE, x.weightFor(0, 0));
        due(NONE, x.weightFor(0, 2));
        due(trust, x.weightFor(0, 3));
        due(trust, x.weightFor(0, 60));
        due(5, x.ofSaying(0, 1));
      }
      // A clerk in the midst tells none below 5, and the last takes none above 5, or above 4.
      NobodySaid y = chain();
      y.change(1, 0, CLERK);
      due(5, y.weightFor(0, 60));
      y.change(3, 1, 4);
      due(NONE, y.weightFor(0, 60));
      due(NONE, slow().weightFor(0, 30));
      due(5, slow().weightFor(0, 31));
      // All of one: he who began it. One more, whom nobody tells: none.
      NobodySaid z = town(MUTE);
      z.saying(0, 0, 0);
      all(9, z.weightFor(0, 0), z.weightFor(0, 60));
      z.person(GOSSIP, 9);
      all(NONE, z.weightFor(0, 0), z.weightFor(0, 60));
    });
    sentence(23, "BEYOND. NONE.", () -> {
      refuses(NONE, Edges::lived, x -> x.weightFor(0, 60));
      refuses(NONE, Edges::full, x -> x.weightFor(5, 0));
      refuses(BEYOND, Edges::lived, (x, v) -> x.weightFor(v, 1), -1, 3, 6, MIN, MAX);
      refuses(BEYOND, Edges::full, (x, v) -> x.weightFor(v, 1), -1, 6);
      refuses(BEYOND, Edges::lived, (x, v) -> x.weightFor(0, v), -1, 61, MIN, MAX);
      takes(() -> { NobodySaid x = town(PERSON); x.saying(0, 0, 0); return x; }, (x, v) -> x.weightFor(0, v), 0, 60);
      changesNothing(Edges::lived, x -> x.weightFor(0, 60));
      changesNothing(Edges::full, x -> x.weightFor(5, 60));
    });
  }

  static void hushes() {
    sentence(24, "one hasn't HEARD a SAYING behind n (0 to 20) DAYS", () -> {
      // From DAY 1 on 4 comes to hear it behind 20 DAYS.
      NobodySaid x = slow();
      x.go(1);
      due(0, x.hush(0, 4, 0));
      due(0, x.hush(0, 4, 19));
      due(1, x.hush(0, 4, 20));
      due(0, x.hush(0, 5, 20));
      x.go(1);
      due(0, x.hush(0, 4, 18));
      due(1, x.hush(0, 4, 19));
    });
    sentence(24, "The set of fewest people (the one, too)", () -> {
      // He alone is enough, and needed where he is told by two.
      NobodySaid x = chain();
      x.talk(0, 1);
      lists(x, 13, 3, 0, 0, 0, 0);
      due(8, x.hush(0, 3, 20));
      due(0, x.hush(0, 3, 0));
      // By the last of eight, too.
      NobodySaid y = town(0, 0, 0, 0, 0, 0, 0, 0);
      y.saying(0, 1, 0);
      y.talk(0, 1);
      y.alter(0, 0, 6);
      lists(y, 7, 17, 0, 0, 0, 0);
      due(128, y.hush(0, 7, 20));
      // Nobody need keep quiet where he isn't told anyhow, or wouldn't take it.
      due(0, y.hush(0, 5, 20));
      y.change(7, 1, 0);
      y.alter(0, 1, 1);
      due(0, y.hush(0, 7, 20));
    });
    sentence(24, "if these are QUIET, too, from now on", () -> {
      // Those who are QUIET already stay so, and aren't counted.
      NobodySaid x = chain();
      x.change(1, 2, 1);
      due(0, x.hush(0, 3, 20));
      x.change(1, 2, 0);
      x.change(3, 2, 1);
      due(0, x.hush(0, 3, 20));
      due(1, x.hush(0, 2, 20));
      due(0, x.of(0, 2));
      due(1, x.of(3, 2));
    });
    sentence(24, "of several the least", () -> {
      NobodySaid x = chain();
      // 0, 1, 2 or 3: any of these would do.
      due(1, x.hush(0, 3, 20));
      x.talk(0, 1);
      due(2, x.hush(0, 3, 20));
      x.talk(1, 2);
      due(4, x.hush(0, 3, 20));
    });
    sentence(24, "BEYOND. NONE.", () -> {
      refuses(NONE, Edges::lived, (x, v) -> x.hush(0, 0, v), 0, 20);
      refuses(NONE, Edges::lived, x -> x.hush(2, 1, 5));
      refuses(BEYOND, Edges::lived, (x, v) -> x.hush(v, 4, 1), -1, 3, 6, MIN, MAX);
      refuses(BEYOND, Edges::lived, (x, v) -> x.hush(0, v, 1), -1, 5, 8, MIN, MAX);
      refuses(BEYOND, Edges::full, (x, v) -> x.hush(v, 7, 1), -1, 6);
      refuses(BEYOND, Edges::full, (x, v) -> x.hush(0, v, 1), -1, 8);
      refuses(BEYOND, Edges::lived, (x, v) -> x.hush(0, 4, v), -1, 21, MIN, MAX);
      takes(Edges::lived, (x, v) -> x.hush(0, 4, v), 0, 20);
      changesNothing(Edges::lived, x -> x.hush(0, 3, 20));
      changesNothing(Edges::full, x -> x.hush(0, 5, 20));
    });
  }

  /** A sheet of that many numbers, -1 each but the last. */
  private static void lastOnly(NobodySaid x, int s, int size, int last) {
    x.sheet(s, 16, size);
    for (int i = 0; i < size - 1; i++) x.write(s, i, -1);
    x.write(s, size - 1, last);
  }

  static void fitting() {
    sentence(25, "How many TALKS (A 0 to 7 to B 0 to 7: 64 of them)", () -> {
      NobodySaid x = chain();
      x.sheet(0, 8, 0);
      due(64, x.fits(0, 0));
      // Nothing comes of these but of the three of 0 to somebody.
      paper(x, 0, 8, 1, 1);
      due(61, x.fits(0, 0));
      for (int b = 1; b < 4; b++) {
        paper(x, 0, 8, 1, 1 + (1 << b));
        due(1, x.fits(0, 0));
      }
      paper(x, 0, 8, 1, 1 + 16);
      due(0, x.fits(0, 0));
      // Of eight: 7 of each who HEARD it, to the others.
      NobodySaid y = town(0, 0, 0, 0, 0, 0, 0, 0);
      y.saying(7, 0, 0);
      paper(y, 0, 16, 128, 128);
      due(57, y.fits(0, 0));
      paper(y, 0, 16, 128, 128 + 1);
      due(1, y.fits(0, 0));
      paper(y, 0, 16, 128, 128 + 64);
      due(1, y.fits(0, 0));
    });
    sentence(25, "the place of THE LIST for this DAY could tell", () -> {
      // On DAYS 5 and 6, at the places 5 and 0.
      NobodySaid x = town(PERSON, PERSON, PERSON);
      x.saying(0, 7, 0);
      lists(x, 0, 0, 0, 0, 0, 0);
      x.go(5);
      paper(x, 0, 8, 1, 3, 3);
      due(1, x.fits(0, 0));
      x.list(0, 1, 2);
      paper(x, 0, 8, 1, 3, 7);
      due(1, x.fits(0, 0));
      x.list(0, 0, 0);
      x.go(1);
      x.list(5, 1, 2);
      // Behind six DAYS 1 told 2 at place 5; behind seven the place of this DAY comes again.
      paper(x, 0, 8, 1, 3, 3, 3, 3, 3, 7);
      due(1, x.fits(0, 0));
      x.list(5, 0, 1);
      paper(x, 0, 8, 1, 1, 1, 1, 1, 1, 3, 7);
      due(1, x.fits(0, 0));
      due(0, x.listed(0));
    });
    sentence(25, "who HEARD a SAYING now and behind each DAY further on is as a sheet tells (-1: any)", () -> {
      NobodySaid x = chain();
      paper(x, 0, 8, 1);
      due(64, x.fits(0, 0));
      paper(x, 0, 8, 3);
      due(0, x.fits(0, 0));
      paper(x, 0, 8, 0);
      due(0, x.fits(0, 0));
      paper(x, 0, 8, -1);
      due(64, x.fits(0, 0));
      paper(x, 0, 8, -2);
      due(0, x.fits(0, 0));
      paper(x, 0, 8, -1, 3);
      due(1, x.fits(0, 0));
      paper(x, 0, 8, 1, -1, -1, 15);
      due(1, x.fits(0, 0));
      // The last of 40 numbers is asked.
      lastOnly(x, 0, 40, 15);
      due(1, x.fits(0, 0));
      lastOnly(x, 0, 40, 14);
      due(0, x.fits(0, 0));
      lastOnly(x, 0, 40, -1);
      due(64, x.fits(0, 0));
      x.write(0, 0, 3);
      due(0, x.fits(0, 0));
      // Of each width -1 is any; 255 is -1 of 8 bits alone, and 65535 of 8 and of 16.
      NobodySaid y = town(0, 0, 0, 0, 0, 0, 0, 0);
      y.saying(7, 0, 0);
      int[][] any = {{255, 65535, -1}, {65535, -1}, {-1}}, none = {{128, 127, 254}, {255, 32768}, {255, 65535, MAX, MIN}};
      int[] bits = {8, 16, 32};
      for (int k = 0; k < 3; k++) {
        for (int v : any[k]) {
          paper(y, 0, bits[k], v);
          due(64, y.fits(0, 0));
        }
        for (int v : none[k]) {
          paper(y, 0, bits[k], v);
          due(0, y.fits(0, 0));
        }
      }
      paper(y, 0, 16, 128);
      due(64, y.fits(0, 0));
    });
    sentence(25, "BEYOND: no such sheet. MISSING. BEYOND: no such SAYING.", () -> {
      refuses(BEYOND, Edges::lived, (x, v) -> x.fits(v, 0), -1, 4, MIN, MAX);
      refuses(BEYOND, Edges::lived, (x, v) -> x.fits(v, 3), -1, 4);
      refuses(MISSING, Edges::lived, (x, v) -> x.fits(3, v), 0, 2, 3, -1, 6);
      refuses(BEYOND, Edges::lived, (x, v) -> x.fits(0, v), -1, 3, 6, MIN, MAX);
      refuses(BEYOND, Edges::full, (x, v) -> x.fits(0, v), -1, 6);
      takes(Edges::lived, (x, v) -> x.fits(0, v), 0, 2);
      takes(Edges::lived, (x, v) -> x.fits(v, 0), 0, 2);
      changesNothing(Edges::lived, x -> x.fits(0, 0));
      changesNothing(() -> { NobodySaid x = lived(); lastOnly(x, 3, 40, 1); return x; }, x -> x.fits(3, 0));
    });
  }

  static void kindsThatFit() {
    sentence(26, "KINDS that one could be of, as a set", () -> {
      NobodySaid x = chain();
      x.sheet(3, 8, 0);
      due(127, x.kinds(3, 1));
      // WEIGHT 5 with TRUST 4: gossip, nobody and child, as it is odd; then all others.
      x.change(1, 1, 4);
      paper(x, 3, 8, 0, 1);
      due(2 + 16 + 64, x.kinds(3, 1));
      paper(x, 3, 8, 0, 0);
      due(1 + 4 + 8 + 32, x.kinds(3, 1));
      x.alter(0, 1, 6);
      paper(x, 3, 8, 0, 1);
      due(2 + 16, x.kinds(3, 1));
      paper(x, 3, 8, 0, 2);
      due(0, x.kinds(3, 1));
      due(PERSON, x.of(1, 0));
    });
    sentence(26, "SAYINGS that he HEARD now and behind each DAY further on are as a sheet tells (-1: any)", () -> {
      NobodySaid x = chain();
      paper(x, 3, 8, 1);
      due(127, x.kinds(3, 0));
      due(0, x.kinds(3, 1));
      paper(x, 3, 8, -1);
      all(127, x.kinds(3, 0), x.kinds(3, 3));
      paper(x, 3, 8, -2);
      due(0, x.kinds(3, 0));
      // On DAY 1 a judge takes nothing.
      paper(x, 3, 8, 0, -1, 1);
      due(127 - 8, x.kinds(3, 2));
      paper(x, 3, 8, 0, -1, 0);
      due(8, x.kinds(3, 2));
      lastOnly(x, 3, 40, 1);
      due(127 - 8, x.kinds(3, 2));
      lastOnly(x, 3, 40, 0);
      due(8, x.kinds(3, 2));
      lastOnly(x, 3, 40, -1);
      due(127, x.kinds(3, 2));
      x.write(3, 0, 1);
      due(0, x.kinds(3, 2));
      // All six.
      for (int s = 1; s < 6; s++) x.saying(0, 7, 5);
      paper(x, 3, 8, 0, 63);
      due(127, x.kinds(3, 1));
      paper(x, 3, 8, 0, 63 - 64 * 4);
      due(127, x.kinds(3, 1));
      paper(x, 3, 16, 0, 63 - 64 * 4);
      due(0, x.kinds(3, 1));
    });
    sentence(26, "BEYOND: no such sheet. MISSING. BEYOND: no such one.", () -> {
      refuses(BEYOND, Edges::lived, (x, v) -> x.kinds(v, 0), -1, 4, MIN, MAX);
      refuses(BEYOND, Edges::lived, (x, v) -> x.kinds(v, 5), -1, 4);
      refuses(MISSING, Edges::lived, (x, v) -> x.kinds(3, v), 0, 4, 5, -1, 8);
      refuses(BEYOND, Edges::lived, (x, v) -> x.kinds(0, v), -1, 5, 8, MIN, MAX);
      refuses(BEYOND, Edges::full, (x, v) -> x.kinds(0, v), -1, 8);
      takes(Edges::lived, (x, v) -> x.kinds(0, v), 0, 4);
      takes(Edges::lived, (x, v) -> x.kinds(v, 0), 0, 2);
      changesNothing(Edges::lived, x -> x.kinds(0, 0));
      changesNothing(() -> { NobodySaid x = lived(); lastOnly(x, 3, 40, 1); return x; }, x -> x.kinds(3, 0));
    });
  }

  static void evenings() {
    sentence(27, "n times (1 to 20) two draws", () -> {
      NobodySaid x = new NobodySaid();
      int z = 1;
      for (int n : new int[] {1, 20, 7}) {
        for (int i = 0; i < 2 * n; i++) z = z * 1103515245 + 12345;
        int day = x.now(0);
        due(0, x.evening(n));
        due(day + n, x.now(0));
        due(z, x.count(6));
      }
      // 20 at once are as 20 of one.
      NobodySaid one = lived(), all = lived();
      for (int i = 0; i < 20; i++) one.evening(1);
      all.evening(20);
      same(print(one), print(all));
      refuses(BEYOND, Edges::lived, (y, v) -> y.evening(v), 0, -1, 21, MIN, MAX);
      refuses(BEYOND, NobodySaid::new, (y, v) -> y.evening(v), 0, 21);
    });
    sentence(27, "THE LIST tells for this DAY a TALK of the first one's rest by 8 to the second one's rest by 8", () -> {
      // From z 1 on z 1103527590 comes first: without its lowest 8 bits 4310654, its rest by 8 is 6.
      NobodySaid x = new NobodySaid();
      int z = 1;
      int[] rests = new int[14];
      for (int i = 0; i < 14; i++) {
        z = z * 1103515245 + 12345;
        rests[i] = (z >>> 8) % 8;
      }
      due(6, rests[0]);
      for (int day = 0; day < 7; day++) {
        x.evening(1);
        due(10 * rests[2 * day] + rests[2 * day + 1], x.listed(day % 6));
        for (int place = day + 1; place < 6; place++) due(1, x.listed(place));
      }
      // And so it is told, before that DAY goes by.
      NobodySaid y = town(0, 0, 0, 0, 0, 0, 0, 0);
      y.saying(6, 0, 0);
      y.evening(1);
      due(64 | 1 << rests[1], y.ofSaying(0, 2));
    });
    sentence(27, "then a DAY: FUND then.", () -> {
      NobodySaid x = town(JUDGE);
      x.saying(0, 0, 2);
      due(0, x.evening(5));
      due(9, x.evening(1));
      due(9, x.evening(20));
      due(9, x.now(1));
      due(1, x.of(0, 3));
    });
    sentence(27, "BEYOND. STATE: DAY would be above 99999.", () -> {
      NobodySaid x = goTo(99980, lived());
      due(STATE, x.evening(20));
      due(99980, x.now(0));
      due(99, x.count(6));
      due(BEYOND, x.evening(21));
      x.evening(18);
      due(99998, x.now(0));
      due(STATE, x.evening(2));
      x.evening(1);
      due(99999, x.now(0));
      due(STATE, x.evening(1));
      due(BEYOND, x.evening(0));
      due(BEYOND, x.evening(21));
      refuses(STATE, () -> goTo(99999, lived()), (y, v) -> y.evening(v), 1, 20);
      refuses(STATE, () -> goTo(99997, full()), (y, v) -> y.evening(v), 3, 20);
    });
  }

  private static long power(long base, int n) {
    long all = 1;
    for (int i = 0; i < n; i++) all *= base;
    return all;
  }

  private static void odds(NobodySaid x, int p, long above, long below) {
    for (int n = 0; n <= 18; n++) {
      due(power(above, n), x.odds(0, p, n, 0));
      due(power(below, n), x.odds(0, p, n, 1));
    }
  }

  static void odds() {
    sentence(28, "a fraction in lowest terms: above (what 0), below the line (1)", () -> {
      // TRUST 0 to 9 takes 1 to 10 of the ten WEIGHTS.
      int[][] terms = {{1, 10}, {1, 5}, {3, 10}, {2, 5}, {1, 2}, {3, 5}, {7, 10}, {4, 5}, {9, 10}, {1, 1}};
      for (int trust = 0; trust <= 9; trust++) {
        NobodySaid x = new NobodySaid();
        x.person(PERSON, trust);
        x.saying(0, 0, 9);
        odds(x, 0, terms[trust][0], terms[trust][1]);
      }
    });
    sentence(28, "n (0 to 18) WEIGHTS, each the rest by 10 of a draw (all ten as likely)", () -> {
      // Of none it is sure, whoever is asked; of 18 the numbers still are whole longs.
      NobodySaid x = town(PERSON, CLERK);
      x.saying(0, 1, 9);
      all(1, x.odds(0, 0, 0, 0), x.odds(0, 0, 0, 1), x.odds(0, 1, 0, 0), x.odds(0, 1, 0, 1));
      x.change(0, 1, 8);
      due(150094635296999121L, x.odds(0, 0, 18, 0));
      due(1000000000000000000L, x.odds(0, 0, 18, 1));
      // No draw is made by that.
      due(1, x.count(6));
      refuses(BEYOND, Edges::lived, (y, v) -> y.odds(0, 0, v, 0), -1, 19, MIN, MAX);
      refuses(BEYOND, Edges::lived, (y, v) -> y.odds(0, 0, v, 1), -1, 19);
    });
    sentence(28, "are all such that one would BELIEVE a SAYING (ABOUT as it is) of it now", () -> {
      NobodySaid x = town(PERSON, GOSSIP, CLERK, JUDGE, NOBODY, MUTE, CHILD);
      x.saying(2, 2, 9);
      odds(x, 0, 3, 5);
      odds(x, 1, 1, 1);
      odds(x, 3, 3, 5);
      odds(x, 4, 1, 1);
      odds(x, 5, 3, 5);
      odds(x, 6, 4, 5);
      // ABOUT himself none of the ten: 0 above, and 1 below the line.
      odds(x, 2, 0, 1);
      x.alter(0, 0, 3);
      odds(x, 2, 3, 5);
      odds(x, 3, 0, 1);
      x.alter(0, 0, 7);
      x.go(1);
      odds(x, 3, 0, 1);
      x.go(1);
      odds(x, 3, 3, 5);
      // Who is QUIET, or HEARD it, is asked as well.
      x.change(3, 2, 1);
      odds(x, 3, 3, 5);
      due(9, x.ofSaying(0, 1));
    });
    sentence(28, "BEYOND.", () -> {
      refuses(BEYOND, Edges::lived, (x, v) -> x.odds(v, 0, 1, 0), -1, 3, 6, MIN, MAX);
      refuses(BEYOND, Edges::lived, (x, v) -> x.odds(0, v, 1, 0), -1, 5, 8, MIN, MAX);
      refuses(BEYOND, Edges::full, (x, v) -> x.odds(v, 0, 1, 0), -1, 6);
      refuses(BEYOND, Edges::full, (x, v) -> x.odds(0, v, 1, 0), -1, 8);
      refuses(BEYOND, Edges::lived, (x, v) -> x.odds(0, 0, 1, v), -1, 2, MIN, MAX);
      changesNothing(Edges::lived, x -> x.odds(0, 0, 18, 1));
    });
    sentence(29, "z becomes v: what it was.", () -> {
      NobodySaid x = new NobodySaid();
      due(1, x.seed(0));
      due(0, x.seed(MAX));
      due(MAX, x.seed(MIN));
      due(MIN, x.seed(BEYOND));
      due(BEYOND, x.seed(-1));
      due(-1, x.count(6));
      due(0, x.status(-1));
      // It is the z that the next draws begin with: from -1 on -1103502900 comes.
      x.evening(1);
      due(-1103502900 * 1103515245 + 12345, x.seed(0));
    });
  }

  public static void main(String[] args) {
    beginners();
    kindsFor();
    trustsFor();
    weightsFor();
    hushes();
    fitting();
    kindsThatFit();
    evenings();
    odds();
    end();
  }
}
