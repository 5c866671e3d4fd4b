import java.math.BigInteger;

/** The edges of days and trials, and of promises 13 to 19: what is now, and what will be. */
public final class NobodySaidEdgesDays extends Edges {

  /** A town of one, of a kind, who began six SAYINGS of a WEIGHT: he is tried for one every sixth DAY. */
  private static NobodySaid tried(int kind, int weight) {
    NobodySaid x = town(kind);
    for (int s = 0; s < 6; s++) x.saying(0, 7, weight);
    return x;
  }

  static void aDay() {
    sentence(TERMS, "Quotients are cut.", () -> {
      // A sixth of DAY 11 is 1, of DAY 35 it is 5, of DAY 41 6, which leaves 0.
      NobodySaid x = town(PERSON);
      for (int s = 0; s < 6; s++) x.saying(0, 7, s + 1);
      int[] fund = {0, 1, 3, 6, 10, 15, 21, 22};
      for (int day = 0; day < 48; day++) {
        due(fund[day / 6], x.now(1));
        x.go(1);
      }
    });
    sentence(TERMS, "FUND (0 to 99999; 0 at first)", () -> {
      due(0, new NobodySaid().now(1));
      due(0, new NobodySaid().go(60));
      due(99999, goTo(40000, tried(GOSSIP, 9)).now(1));
    });
    sentence(TERMS, "If DAY leaves 5 by 6 then, there is a TRIAL", () -> {
      NobodySaid x = tried(PERSON, 1);
      for (int day = 1; day <= 60; day++) {
        due(day / 6, x.go(1));
        due(day / 6, x.of(0, 3));
        due(day, x.now(0));
      }
    });
    sentence(TERMS, "the SAYING of the number that a sixth (cut) of DAY leaves by 6, if there is that SAYING", () -> {
      // One SAYING weighs 9, the others 0: FUND tells which was tried. The seventh trial is of the first again.
      for (int heavy = 0; heavy < 6; heavy++) {
        NobodySaid x = tried(PERSON, 0);
        x.alter(heavy, 1, 9);
        int fund = 0;
        for (int trial = 0; trial < 14; trial++) {
          if (trial % 6 == heavy) fund += 9;
          due(fund, x.go(6));
        }
      }
      // Of 2 SAYINGS only those are tried, and of none none.
      NobodySaid y = town(PERSON);
      y.saying(0, 7, 1);
      y.saying(0, 7, 2);
      int[] due = {1, 3, 3, 3, 3, 3, 4, 6, 6};
      for (int trial = 0; trial < 9; trial++) due(due[trial], y.go(6));
      NobodySaid z = town(PERSON, NOBODY);
      due(0, z.go(60));
      all(0, z.of(0, 3), z.of(1, 3));
    });
    sentence(TERMS, "A DAY goes by: the TALK of THE LIST for DAY modulo 6.", () -> {
      // It comes ahead of the trial of the same DAY: the mute HEARD it by then, so it is traced to nobody.
      NobodySaid x = town(PERSON, MUTE, NOBODY);
      x.saying(0, 7, 5);
      lists(x, 0, 0, 0, 0, 0, 1);
      due(1, x.go(6));
      due(0, x.of(0, 3));
      due(1, x.of(2, 3));
      // On the DAY of the trial it is still that DAY, 5: odd, so the judge doesn't take it.
      NobodySaid y = town(PERSON, JUDGE);
      y.saying(0, 7, 5);
      lists(y, 0, 0, 0, 0, 0, 1);
      y.go(6);
      due(1, y.ofSaying(0, 2));
      // DAY 4 is even.
      lists(y, 0, 0, 0, 0, 1, 0);
      y.go(5);
      due(3, y.ofSaying(0, 2));
    });
    sentence(TERMS, "it is TRACED from the one of the greatest number who HEARD it; if to one of PEOPLE, he is blamed", () -> {
      // 2 has it from 1, a gossip, so that 0 isn't blamed; 3, the greatest, has it from 0.
      NobodySaid x = town(PERSON, GOSSIP, PERSON, PERSON, NOBODY);
      x.saying(0, 7, 5);
      lists(x, 0, 0, 0, 0, 0, 0);
      x.talk(0, 1);
      x.talk(1, 2);
      due(1, x.go(6));
      due(1, x.of(4, 3));
      x.talk(0, 3);
      due(1, x.go(30));
      due(1 + 5, x.go(6));
      due(1, x.of(0, 3));
      due(1, x.of(4, 3));
      all(0, x.of(1, 3), x.of(2, 3), x.of(3, 3));
      // The greatest of all, 7, and the least, 0.
      NobodySaid y = town(0, 0, 0, 0, 0, 0, 0, 0);
      y.saying(7, 0, 3);
      y.saying(0, 7, 4);
      lists(y, 0, 0, 0, 0, 0, 0);
      due(3, y.go(6));
      due(1, y.of(7, 3));
      due(7, y.go(6));
      due(1, y.of(0, 3));
    });
    sentence(TERMS, "if to nobody, the NOBODY (of the KIND) of the least number is, if there is one", () -> {
      NobodySaid x = town(GOSSIP, GOSSIP);
      x.saying(0, 7, 9);
      due(0, x.go(6));
      due(0, x.now(4));
      NobodySaid y = town(GOSSIP, GOSSIP, NOBODY, NOBODY);
      y.saying(0, 7, 9);
      due(1, y.go(6));
      due(1, y.of(2, 3));
      due(0, y.of(3, 3));
      // The last of eight, and the first.
      NobodySaid z = town(GOSSIP, GOSSIP, 0, 0, 0, 0, 0, NOBODY);
      z.saying(0, 2, 9);
      due(1, z.go(6));
      due(1, z.of(7, 3));
      NobodySaid u = town(NOBODY, GOSSIP, GOSSIP, NOBODY);
      u.saying(1, 0, 9);
      lists(u, 0, 12, 0, 0, 0, 0);
      due(1, u.go(6));
      due(1, u.of(0, 3));
      // A QUIET one is blamed as well.
      NobodySaid v = town(GOSSIP, GOSSIP, NOBODY);
      v.saying(0, 7, 9);
      v.change(2, 2, 1);
      due(1, v.go(6));
    });
    sentence(TERMS, "PERSON: WEIGHT. GOSSIP: twice a PERSON. CHILD: 0. CLERK: as a PERSON, and 2. JUDGE: as a CLERK, and 5. NOBODY: 1. MUTE: as a PERSON.", () -> {
      for (int weight = 0; weight <= 9; weight++) {
        int[] pays = {weight, 2 * weight, weight + 2, weight + 7, 1, weight, 0};
        for (int kind = 0; kind < 7; kind++) {
          NobodySaid x = tried(kind, weight);
          due(0, x.go(5));
          due(pays[kind], x.go(1));
          due(1, x.of(0, 3));
        }
      }
    });
    sentence(TERMS, "BLAMED is 1 more (9999 at most)", () -> {
      NobodySaid x = tried(CLERK, 1);
      x.change(0, 3, 9998);
      due(3, x.go(6));
      due(9999, x.of(0, 3));
      // FUND goes on.
      due(6, x.go(6));
      due(9999, x.of(0, 3));
      due(9999, x.ahead(0, 3, 100));
      due(9, x.go(6));
      // So it is for the NOBODY.
      NobodySaid y = town(GOSSIP, GOSSIP, NOBODY);
      y.saying(0, 7, 1);
      y.change(2, 3, 9999);
      due(1, y.go(6));
      due(9999, y.of(2, 3));
    });
    sentence(TERMS, "FUND what he PAYS more (99999 at most)", () -> {
      // 18 at each trial: 5555 of them make 99990.
      NobodySaid x = goTo(33330, tried(GOSSIP, 9));
      due(99990, x.now(1));
      due(99990, x.go(5));
      due(99999, x.go(1));
      due(99999, x.go(60));
      due(99999, x.count(3));
      due(5566, x.of(0, 3));
      // Just 99999 is reached by 1 at a time.
      NobodySaid y = goTo(33330, tried(GOSSIP, 9));
      for (int s = 0; s < 6; s++) y.alter(s, 1, 1);
      y.change(0, 0, PERSON);
      for (int more = 1; more <= 9; more++) due(99990 + more, y.go(6));
      due(99999, y.go(6));
      due(5565, y.of(0, 3));
    });
    sentence(TERMS, "DAY is one more (99999 at most)", () -> {
      // DAY 99999 leaves 3 by 6: what would be stays at that place of THE LIST, and comes to no more trials.
      NobodySaid x = town(PERSON, PERSON, PERSON, PERSON, PERSON);
      for (int s = 0; s < 6; s++) x.saying(0, 7, 5);
      lists(x, 0, 0, 34, 1, 12, 23);
      x.change(0, 2, 1);
      goTo(99998, x);
      x.change(0, 2, 0);
      x.change(0, 3, 0);
      due(1, x.spread(0, 1));
      due(3, x.spread(0, 2));
      due(3, x.spread(0, 100));
      due(2, x.when(5, 1));
      due(NONE, x.when(5, 2));
      due(0, x.ahead(0, 3, 100));
      due(NONE, x.blamed(0, 1));
      due(99998, x.now(0));
      x.go(1);
      due(99999, x.now(0));
      due(1, x.spread(0, 0));
      due(3, x.spread(0, 1));
      due(3, x.spread(0, 100));
    });
  }

  static void draws() {
    sentence(TERMS, "DRAWS: z is told (1 at first); each makes it z * 1103515245 + 12345 (an int), and gives z >>> 8.", () -> {
      due(1, new NobodySaid().count(6));
      for (int seed : new int[] {1, 0, -1, 2, MAX, MIN, MAX - 1, MIN + 1, 1 << 16, -1000001, 99}) {
        NobodySaid x = new NobodySaid();
        x.seed(seed);
        long z = seed;
        for (int day = 0; day < 20; day++) {
          int place = day % 6, told = 0;
          for (int draw = 0; draw < 2; draw++) {
            BigInteger next = BigInteger.valueOf(z).multiply(BigInteger.valueOf(1103515245)).add(BigInteger.valueOf(12345));
            z = next.mod(BigInteger.ONE.shiftLeft(32)).longValueExact();
            told = 10 * told + (int) (z / 256 % 8);
          }
          x.evening(1);
          due(told, x.listed(place));
          due(z >= 1L << 31 ? z - (1L << 32) : z, x.count(6));
        }
      }
    });
  }

  static void going() {
    sentence(13, "n DAYS (1 to 60): FUND then. BEYOND.", () -> {
      NobodySaid x = tried(PERSON, 9);
      due(0, x.go(1));
      due(1, x.now(0));
      due(90, x.go(60));
      due(61, x.now(0));
      due(90, x.now(1));
      refuses(BEYOND, Edges::lived, (y, v) -> y.go(v), 0, -1, 61, MIN, MAX);
      refuses(BEYOND, Edges::full, (y, v) -> y.go(v), 0, 61);
      due(0, new NobodySaid().go(60));
    });
    sentence(13, "STATE: DAY would be above 99999.", () -> {
      NobodySaid x = goTo(99940, lived());
      due(STATE, x.go(60));
      due(99940, x.now(0));
      due(BEYOND, x.go(61));
      int fund = x.go(58);
      due(fund, x.now(1));
      due(99998, x.now(0));
      due(STATE, x.go(2));
      x.image();
      due(fund, x.go(1));
      due(99999, x.now(0));
      due(STATE, x.go(1));
      due(STATE, x.go(60));
      due(BEYOND, x.go(0));
      due(BEYOND, x.go(61));
      due(99998, x.undo());
      due(fund, x.go(1));
      refuses(STATE, () -> goTo(99999, lived()), (y, v) -> y.go(v), 1, 60);
      refuses(STATE, () -> goTo(99998, full()), (y, v) -> y.go(v), 2, 60);
      due(99999, goTo(99999, lived()).count(0));
    });
  }

  static void now() {
    sentence(14, "What 0 DAY, 1 FUND", () -> {
      NobodySaid x = tried(JUDGE, 9);
      due(0, x.now(0));
      due(0, x.now(1));
      x.go(6);
      due(6, x.now(0));
      due(16, x.now(1));
    });
    sentence(14, "2 how often anybody HEARD a SAYING (all pairs of both)", () -> {
      due(0, new NobodySaid().now(2));
      NobodySaid x = town(GOSSIP, GOSSIP, GOSSIP, GOSSIP, GOSSIP, GOSSIP, GOSSIP, GOSSIP);
      due(0, x.now(2));
      for (int s = 0; s < 6; s++) x.saying(0, 7, 0);
      due(6, x.now(2));
      for (int p = 1; p < 8; p++) {
        x.talk(0, p);
        due(6 * (p + 1), x.now(2));
      }
    });
    sentence(14, "3 SAYINGS that everybody HEARD, as a set", () -> {
      due(0, new NobodySaid().now(3));
      NobodySaid x = town(GOSSIP);
      due(0, x.now(3));
      for (int s = 0; s < 6; s++) {
        x.saying(0, 7, 0);
        due((2 << s) - 1, x.now(3));
      }
      // One more has HEARD none, and all of them then.
      x.person(GOSSIP, 5);
      due(0, x.now(3));
      x.talk(0, 1);
      due(63, x.now(3));
      for (int p = 2; p < 8; p++) x.person(GOSSIP, 5);
      for (int p = 2; p < 7; p++) x.talk(0, p);
      due(0, x.now(3));
      x.talk(0, 7);
      due(63, x.now(3));
    });
    sentence(14, "4 BLAMED of all together", () -> {
      due(0, new NobodySaid().now(4));
      NobodySaid x = full();
      for (int p = 0; p < 8; p++) x.change(p, 3, 9999);
      due(8 * 9999, x.now(4));
      x.change(7, 3, 0);
      due(7 * 9999, x.now(4));
    });
    sentence(14, "5 who is blamed most, of like ones the least number, also 0 times (-1: there is nobody)", () -> {
      due(-1, new NobodySaid().now(5));
      due(0, town(PERSON).now(5));
      NobodySaid x = town(0, 0, 0, 0, 0, 0, 0, 0);
      due(0, x.now(5));
      x.change(7, 3, 1);
      due(7, x.now(5));
      x.change(3, 3, 1);
      due(3, x.now(5));
      x.change(5, 3, 9999);
      due(5, x.now(5));
      x.change(6, 3, 9999);
      due(5, x.now(5));
      x.change(0, 3, 9999);
      due(0, x.now(5));
    });
    sentence(14, "6 who HEARD none, as a set", () -> {
      due(0, new NobodySaid().now(6));
      NobodySaid x = town(0, 0, 0, 0, 0, 0, 0, 0);
      due(255, x.now(6));
      x.saying(7, 0, 0);
      due(127, x.now(6));
      x.saying(7, 0, 0);
      due(127, x.now(6));
      for (int p = 0; p < 7; p++) x.talk(7, p);
      due(0, x.now(6));
    });
    sentence(14, "7 SAYINGS that are TRACED to nobody from the one of the greatest number who HEARD them, as a set", () -> {
      due(0, new NobodySaid().now(7));
      NobodySaid x = town(PERSON, GOSSIP, PERSON);
      for (int s = 0; s < 6; s++) x.saying(0, 7, 0);
      due(0, x.now(7));
      x.talk(0, 1);
      due(63, x.now(7));
      // 2 is greater now: his come from 0 himself.
      x.talk(0, 2);
      due(0, x.now(7));
      NobodySaid y = town(PERSON, GOSSIP, PERSON);
      for (int s = 0; s < 6; s++) y.saying(0, 7, s % 2 == 0 ? 5 : 6);
      y.talk(0, 1);
      y.talk(1, 2);
      // Those of WEIGHT 5 are 2's, from the gossip; those of 6 stay with the gossip.
      due(63, y.now(7));
      due(21, y.of(2, 4));
      y.change(2, 1, 9);
      y.talk(0, 2);
      due(21, y.now(7));
    });
    sentence(14, "BEYOND.", () -> {
      refuses(BEYOND, Edges::lived, (x, v) -> x.now(v), -1, 8, MIN, MAX);
      refuses(BEYOND, NobodySaid::new, (x, v) -> x.now(v), -1, 8);
      for (int what = 0; what <= 7; what++) {
        int k = what;
        changesNothing(Edges::lived, x -> x.now(k));
      }
    });
  }

  static void ahead() {
    sentence(TERMS, "what will be (nothing changes)", () -> {
      for (Make make : new Make[] {Edges::lived, Edges::full, () -> goTo(99990, lived())}) {
        changesNothing(make, x -> x.ahead(0, 3, 100));
        changesNothing(make, x -> x.ahead(0, 4, 100));
        changesNothing(make, x -> x.spread(0, 100));
        changesNothing(make, x -> x.when(0, 4));
        changesNothing(make, x -> x.when(0, 0));
        changesNothing(make, x -> x.blamed(0, 9999));
        changesNothing(make, x -> x.fund(99999));
      }
    });
    sentence(15, "What 3, 4 (as in of()) of one behind n (0 to 100) DAYS.", () -> {
      NobodySaid x = tried(PERSON, 1);
      due(0, x.ahead(0, 3, 0));
      due(63, x.ahead(0, 4, 0));
      // From DAY 2 on the trials come behind 4, 10, .. 100 DAYS.
      x.go(2);
      due(0, x.ahead(0, 3, 3));
      due(1, x.ahead(0, 3, 4));
      due(16, x.ahead(0, 3, 99));
      due(17, x.ahead(0, 3, 100));
      NobodySaid y = slow();
      due(0, y.ahead(6, 4, 30));
      due(1, y.ahead(6, 4, 31));
      due(1, y.ahead(6, 4, 100));
      // It is what comes to be, for each of eight and with each of six SAYINGS.
      for (Make make : new Make[] {Edges::lived, Edges::full, Edges::chain}) {
        for (int n = 1; n <= 60; n++) {
          NobodySaid before = make.make(), then = make.make();
          then.go(n);
          for (int p = 0; p < then.count(1); p++) {
            due(then.of(p, 3), before.ahead(p, 3, n));
            due(then.of(p, 4), before.ahead(p, 4, n));
          }
        }
      }
    });
    sentence(15, "BEYOND.", () -> {
      refuses(BEYOND, Edges::lived, (x, v) -> x.ahead(v, 3, 1), -1, 5, 8, MIN, MAX);
      refuses(BEYOND, Edges::full, (x, v) -> x.ahead(v, 3, 1), -1, 8);
      refuses(BEYOND, Edges::lived, (x, v) -> x.ahead(0, v, 1), -1, 0, 1, 2, 5, MIN, MAX);
      refuses(BEYOND, Edges::lived, (x, v) -> x.ahead(0, 3, v), -1, 101, MIN, MAX);
      refuses(BEYOND, Edges::lived, (x, v) -> x.ahead(0, 4, v), -1, 101);
      changesNothing(Edges::lived, x -> x.ahead(0, 3, 100));
      changesNothing(Edges::full, x -> x.ahead(7, 4, 100));
      changesNothing(Edges::lived, x -> x.ahead(0, 4, 0));
    });
    sentence(16, "Who HEARD a SAYING behind n (0 to 100) DAYS, as a set.", () -> {
      NobodySaid x = slow();
      for (int n = 0; n <= 40; n++) {
        int knowing = 1 + Math.min(6, Math.max(0, (n - 1) / 5));
        due((1 << knowing) - 1, x.spread(0, n));
      }
      due(127, x.spread(0, 100));
      for (int n = 1; n <= 60; n++) {
        NobodySaid before = full(), then = full();
        then.go(n);
        for (int s = 0; s < 6; s++) due(then.ofSaying(s, 2), before.spread(s, n));
      }
    });
    sentence(16, "BEYOND.", () -> {
      refuses(BEYOND, Edges::lived, (x, v) -> x.spread(v, 1), -1, 3, 6, MIN, MAX);
      refuses(BEYOND, Edges::full, (x, v) -> x.spread(v, 1), -1, 6);
      refuses(BEYOND, Edges::lived, (x, v) -> x.spread(0, v), -1, 101, MIN, MAX);
      changesNothing(Edges::lived, x -> x.spread(2, 100));
      changesNothing(Edges::full, x -> x.spread(5, 100));
    });
    sentence(17, "Behind how many DAYS (0 to 200, the fewest) one HEARD a SAYING.", () -> {
      // With THE LIST as it is nobody can come to hear one later than behind 31 DAYS; 200 are never needed.
      NobodySaid x = slow();
      due(0, x.when(0, 0));
      for (int p = 1; p <= 6; p++) due(5 * p + 1, x.when(0, p));
      x.go(30);
      for (int p = 0; p < 6; p++) due(0, x.when(0, p));
      due(1, x.when(0, 6));
      x.go(1);
      due(0, x.when(0, 6));
    });
    sentence(17, "BEYOND. NONE.", () -> {
      refuses(NONE, Edges::lived, x -> x.when(0, 4));
      refuses(NONE, Edges::lived, x -> x.when(2, 4));
      refuses(BEYOND, Edges::lived, (x, v) -> x.when(v, 0), -1, 3, 6, MIN, MAX);
      refuses(BEYOND, Edges::lived, (x, v) -> x.when(0, v), -1, 5, 8, MIN, MAX);
      refuses(BEYOND, Edges::full, (x, v) -> x.when(v, 0), -1, 6);
      refuses(BEYOND, Edges::full, (x, v) -> x.when(0, v), -1, 8);
      changesNothing(Edges::lived, x -> x.when(1, 4));
      changesNothing(Edges::full, x -> x.when(0, 5));
    });
    sentence(18, "Behind how many DAYS (0 to 200, the fewest) BLAMED of one is v (0 to 9999) or more.", () -> {
      NobodySaid x = tried(PERSON, 1);
      due(0, x.blamed(0, 0));
      due(6, x.blamed(0, 1));
      due(12, x.blamed(0, 2));
      // From DAY 4 on the 34th trial comes behind 200 DAYS, from DAY 3 on behind 201.
      x.go(3);
      due(195, x.blamed(0, 33));
      due(NONE, x.blamed(0, 34));
      x.go(1);
      due(194, x.blamed(0, 33));
      due(200, x.blamed(0, 34));
      due(NONE, x.blamed(0, 35));
      x.change(0, 3, 9998);
      due(0, x.blamed(0, 9998));
      due(2, x.blamed(0, 9999));
      x.change(0, 3, 9999);
      all(0, x.blamed(0, 9999), x.blamed(0, 0));
    });
    sentence(18, "BEYOND. NONE.", () -> {
      refuses(NONE, Edges::lived, x -> x.blamed(4, 1));
      refuses(NONE, Edges::lived, x -> x.blamed(0, 9999));
      refuses(BEYOND, Edges::lived, (x, v) -> x.blamed(v, 0), -1, 5, 8, MIN, MAX);
      refuses(BEYOND, Edges::full, (x, v) -> x.blamed(v, 0), -1, 8);
      refuses(BEYOND, Edges::lived, (x, v) -> x.blamed(0, v), -1, 10000, MIN, MAX);
      changesNothing(Edges::lived, x -> x.blamed(0, 6));
    });
    sentence(19, "Behind how many DAYS (0 to 200, the fewest) FUND is v (0 to 99999) or more.", () -> {
      NobodySaid x = tried(PERSON, 1);
      due(0, x.fund(0));
      due(6, x.fund(1));
      due(12, x.fund(2));
      x.go(3);
      due(195, x.fund(33));
      due(NONE, x.fund(34));
      x.go(1);
      due(200, x.fund(34));
      due(NONE, x.fund(35));
      // More than is asked comes at once.
      NobodySaid y = tried(GOSSIP, 9);
      all(6, y.fund(1), y.fund(17), y.fund(18));
      all(12, y.fund(19), y.fund(36));
      goTo(33330, y);
      due(0, y.fund(99990));
      all(6, y.fund(99991), y.fund(99999));
      y.go(6);
      due(0, y.fund(99999));
      due(BEYOND, y.fund(100000));
    });
    sentence(19, "BEYOND. NONE.", () -> {
      refuses(NONE, Edges::lived, x -> x.fund(99999));
      refuses(NONE, NobodySaid::new, x -> x.fund(1));
      refuses(BEYOND, Edges::lived, (x, v) -> x.fund(v), -1, 100000, MIN, MAX);
      refuses(BEYOND, NobodySaid::new, (x, v) -> x.fund(v), -1, 100000);
      changesNothing(Edges::lived, x -> x.fund(20));
      due(0, new NobodySaid().fund(0));
    });
  }

  public static void main(String[] args) {
    aDay();
    draws();
    going();
    now();
    ahead();
    end();
  }
}
