/** For each promise of the document ordinary inputs, its edges and wrong inputs, with answers told by hand. */
public final class NobodySaidPromises extends Edges {
  private static int wrong = 0;
  private static int promise = 0;
  private static int asked = 0;

  static void promise(int number) { promise = number; asked = 0; }

  static void due(long want, long got) {
    asked++;
    if (got != want) {
      wrong++;
      System.out.println("promise " + promise + ", question " + asked + ": answered " + got + ", due is " + want);
    }
  }

  /** All of these are due to be the same. */
  static void all(long want, long... got) { for (long g : got) due(want, g); }

  static void newObject() {
    promise(1);
    NobodySaid x = new NobodySaid();
    for (int i = 0; i < 6; i++) due(1, x.listed(i));
    all(0, x.count(0), x.count(1), x.count(2), x.count(3), x.count(4), x.count(5), x.count(7));
    due(1, x.count(6));
    for (int which = -1; which <= 6; which++) due(0, x.status(which));
    due(BEYOND, x.of(0, 0));
    due(BEYOND, x.ofSaying(0, 0));
    all(MISSING, x.as(0, 0), x.as(9, 0), x.load(0), x.load(3));
    due(NONE, x.undo());
    due(0, x.tear());
  }

  static void theList() {
    promise(2);
    NobodySaid x = new NobodySaid();
    due(1, x.list(0, 7, 6));
    due(76, x.list(0, 3, 3));
    due(33, x.list(0, 0, 0));
    due(1, x.list(5, 0, 7));
    due(7, x.list(5, 7, 7));
    all(BEYOND, x.list(-1, 0, 0), x.list(6, 0, 0), x.list(0, -1, 0), x.list(0, 8, 0), x.list(0, 0, -1), x.list(0, 0, 8), x.list(MIN, MAX, MIN));
    promise(3);
    due(0, x.listed(0));
    due(77, x.listed(5));
    due(1, x.listed(4));
    all(BEYOND, x.listed(-1), x.listed(6), x.listed(MAX), x.listed(MIN));
  }

  static void people() {
    promise(4);
    NobodySaid x = new NobodySaid();
    all(BEYOND, x.person(-1, 0), x.person(7, 0), x.person(0, -1), x.person(0, 10), x.person(MIN, MAX));
    due(0, x.count(1));
    for (int i = 0; i < 8; i++) due(i, x.person(i % 7, i));
    due(FULL, x.person(0, 0));
    all(BEYOND, x.person(7, 0), x.person(0, 10));
    due(8, x.count(1));
    for (int i = 0; i < 8; i++) {
      due(i % 7, x.of(i, 0));
      due(i, x.of(i, 1));
      all(0, x.of(i, 2), x.of(i, 3), x.of(i, 4));
    }
    promise(6);
    due(0, x.saying(2, 0, 0));
    due(1, x.saying(3, 0, 0));
    due(2, x.saying(2, 0, 0));
    due(5, x.of(2, 4));
    due(2, x.of(3, 4));
    all(BEYOND, x.of(-1, 0), x.of(8, 0), x.of(0, -1), x.of(0, 5), x.of(MAX, MIN));
    promise(7);
    due(0, x.change(0, 0, 6));
    due(6, x.change(0, 0, 5));
    due(0, x.change(0, 1, 9));
    due(9, x.change(0, 1, 2));
    due(0, x.change(0, 2, 1));
    due(1, x.change(0, 2, 1));
    due(0, x.change(0, 3, 9999));
    due(9999, x.change(0, 3, 0));
    due(0, x.change(0, 3, 44));
    all(BEYOND, x.change(-1, 0, 0), x.change(8, 0, 0), x.change(0, -1, 0), x.change(0, 4, 0));
    all(BEYOND, x.change(0, 0, -1), x.change(0, 0, 7), x.change(0, 1, -1), x.change(0, 1, 10));
    all(BEYOND, x.change(0, 2, -1), x.change(0, 2, 2), x.change(0, 3, -1), x.change(0, 3, 10000));
    due(5, x.of(0, 0));
    due(2, x.of(0, 1));
    due(1, x.of(0, 2));
    due(44, x.of(0, 3));
  }

  static void sayings() {
    promise(5);
    NobodySaid x = town(PERSON, PERSON);
    all(BEYOND, x.saying(-1, 0, 0), x.saying(2, 0, 0), x.saying(0, -1, 0), x.saying(0, 8, 0), x.saying(0, 0, -1), x.saying(0, 0, 10));
    for (int i = 0; i < 6; i++) due(i, x.saying(i % 2, 7 - i, 9 - i));
    due(FULL, x.saying(0, 0, 0));
    due(BEYOND, x.saying(2, 0, 0));
    due(6, x.count(2));
    promise(8);
    for (int i = 0; i < 6; i++) {
      due(7 - i, x.ofSaying(i, 0));
      due(9 - i, x.ofSaying(i, 1));
      due(1 << i % 2, x.ofSaying(i, 2));
    }
    all(BEYOND, x.ofSaying(-1, 0), x.ofSaying(6, 0), x.ofSaying(0, -1), x.ofSaying(0, 3));
    promise(9);
    due(7, x.alter(0, 0, 0));
    due(0, x.alter(0, 0, 7));
    due(9, x.alter(0, 1, 0));
    due(0, x.alter(0, 1, 9));
    all(BEYOND, x.alter(-1, 0, 0), x.alter(6, 0, 0), x.alter(0, -1, 0), x.alter(0, 2, 0));
    all(BEYOND, x.alter(0, 0, -1), x.alter(0, 0, 8), x.alter(0, 1, -1), x.alter(0, 1, 10));
    due(7, x.ofSaying(0, 0));
    due(9, x.ofSaying(0, 1));
  }

  static void fromWhom() {
    promise(10);
    NobodySaid x = town(PERSON, PERSON, PERSON, GOSSIP, CHILD, CLERK, JUDGE, NOBODY);
    x.saying(0, 7, 5);
    due(-1, x.from(0, 0));
    due(NONE, x.from(0, 1));
    all(1, x.talk(0, 1), x.talk(1, 2), x.talk(2, 3), x.talk(3, 4), x.talk(4, 5), x.talk(5, 6), x.talk(2, 7));
    due(0, x.from(0, 1));
    due(1, x.from(0, 2));
    due(8, x.from(0, 3));
    due(3, x.from(0, 4));
    due(4, x.from(0, 5));
    due(5, x.from(0, 6));
    due(8, x.from(0, 7));
    all(BEYOND, x.from(-1, 0), x.from(1, 0), x.from(0, -1), x.from(0, 8), x.from(1, 8));
    promise(11);
    all(0, x.traced(0, 0), x.traced(0, 1), x.traced(0, 2));
    all(8, x.traced(0, 3), x.traced(0, 4), x.traced(0, 5), x.traced(0, 6), x.traced(0, 7));
    all(BEYOND, x.traced(-1, 0), x.traced(1, 0), x.traced(0, -1), x.traced(0, 8));
    x.saying(1, 0, 0);
    due(NONE, x.traced(1, 0));
    due(1, x.traced(1, 1));
    NobodySaid y = town(PERSON, MUTE);
    y.saying(0, 7, 5);
    due(1, y.talk(0, 1));
    due(8, y.from(0, 1));
  }

  /** Whether one of a kind tells a SAYING of a WEIGHT ABOUT 0 himself, 1 the other, 2 another. */
  static int tells(int kind, int about, int weight) {
    NobodySaid x = town(kind, GOSSIP);
    x.saying(0, about, weight);
    return x.talk(0, 1);
  }

  /** Whether one of a kind with TRUST 4 takes a SAYING of a WEIGHT ABOUT 0 the other, 1 himself, 2 another. */
  static int believes(int kind, int about, int weight, int day) {
    NobodySaid x = town(GOSSIP);
    x.person(kind, 4);
    x.saying(0, about, weight);
    lists(x, 0, 0, 0, 0, 0, 0);
    if (day > 0) x.go(day);
    return x.talk(0, 1);
  }

  static void talks() {
    promise(12);
    for (int weight = 0; weight <= 9; weight++) {
      int heavy = weight >= 5 ? 1 : 0;
      for (int about = 0; about <= 2; about++) {
        due(about == 0 ? 0 : 1, tells(PERSON, about, weight));
        due(1, tells(GOSSIP, about, weight));
        due(about == 1 ? 0 : 1, tells(CHILD, about, weight));
        due(heavy, tells(CLERK, about, weight));
        due(about == 1 ? 0 : heavy, tells(JUDGE, about, weight));
        due(about == 0 ? 1 : 0, tells(NOBODY, about, weight));
        due(0, tells(MUTE, about, weight));
        int trusted = weight <= 4 ? 1 : 0;
        for (int day = 0; day <= 3; day++) {
          due(trusted, believes(PERSON, about, weight, day));
          due(1, believes(GOSSIP, about, weight, day));
          due(weight % 2 == 1 ? 1 : trusted, believes(CHILD, about, weight, day));
          due(about == 1 ? 0 : trusted, believes(CLERK, about, weight, day));
          due(about == 1 || day % 2 == 1 ? 0 : trusted, believes(JUDGE, about, weight, day));
          due(1, believes(NOBODY, about, weight, day));
          due(trusted, believes(MUTE, about, weight, day));
        }
      }
    }
    NobodySaid x = town(GOSSIP, GOSSIP, GOSSIP);
    for (int i = 0; i < 6; i++) x.saying(i % 2, 0, i);
    due(21, x.talk(0, 1));
    due(0, x.talk(0, 1));
    due(63, x.talk(1, 2));
    all(BEYOND, x.talk(0, 0), x.talk(-1, 0), x.talk(3, 0), x.talk(0, -1), x.talk(0, 3));
    x.change(2, 2, 1);
    all(STATE, x.talk(2, 0), x.talk(0, 2));
    due(BEYOND, x.talk(2, 2));
    due(21, x.of(0, 4));
  }

  static void days() {
    promise(13);
    NobodySaid x = town(PERSON, GOSSIP, NOBODY);
    x.saying(0, 7, 5);
    x.saying(1, 7, 4);
    lists(x, 0, 12, 1, 77, 7, 22);
    all(BEYOND, x.go(0), x.go(61), x.go(-1), x.go(MAX), x.go(MIN));
    due(0, x.go(2));
    due(1, x.of(0, 4));
    due(2, x.of(1, 4));
    due(2, x.of(2, 4));
    due(0, x.go(1));
    due(3, x.of(1, 4));
    due(0, x.go(2));
    // The trial of saying 0: it is traced from 1, a gossip, to nobody, so the nobody pays 1.
    due(1, x.go(1));
    due(1, x.of(2, 3));
    // The trial of saying 1: he who has it, 2, is a nobody and names nobody.
    due(2, x.go(6));
    due(2, x.of(2, 3));
    due(2, x.go(24));
    due(3, x.go(6));
    due(42, x.now(0));
    NobodySaid y = town(PERSON, PERSON);
    y.saying(0, 7, 5);
    due(10, y.go(60));
    due(60, y.now(0));
    due(2, y.of(0, 3));
  }

  /** FUND behind one trial of a SAYING of WEIGHT 3 that one of a kind began. */
  static int pays(int kind) {
    NobodySaid x = town(kind);
    x.saying(0, 0, 3);
    return x.go(6);
  }

  static void trials() {
    promise(13);
    due(3, pays(PERSON));
    due(6, pays(GOSSIP));
    due(0, pays(CHILD));
    due(5, pays(CLERK));
    due(10, pays(JUDGE));
    due(1, pays(NOBODY));
    due(3, pays(MUTE));
    // No nobody is there: nobody is blamed.
    NobodySaid x = town(GOSSIP, GOSSIP);
    x.saying(0, 7, 9);
    due(0, x.go(6));
    due(3, x.ofSaying(0, 2));
    due(0, x.now(4));
    // Two of them: the one of the least number; BLAMED ends at 9999, FUND goes on.
    NobodySaid y = town(GOSSIP, GOSSIP, NOBODY, NOBODY);
    y.saying(0, 7, 9);
    y.change(2, 3, 9999);
    due(1, y.go(6));
    due(9999, y.of(2, 3));
    due(0, y.of(3, 3));
    // Quiet ones aren't talked to, but are tried.
    NobodySaid z = town(PERSON, PERSON);
    z.saying(0, 7, 5);
    z.change(0, 2, 1);
    due(5, z.go(6));
    due(1, z.ofSaying(0, 2));
    z.change(0, 2, 0);
    z.change(1, 2, 1);
    due(5, z.go(6));
    due(1, z.ofSaying(0, 2));
    // The last talk comes ahead of the trial of its day.
    NobodySaid u = town(PERSON, MUTE, NOBODY);
    u.saying(0, 7, 5);
    lists(u, 0, 0, 0, 0, 0, 1);
    due(1, u.go(6));
    // A judge is asked by the day: heard at place 1 never, at place 2 on day 2.
    NobodySaid v = town(PERSON, JUDGE);
    v.saying(0, 7, 5);
    lists(v, 0, 1, 0, 1, 0, 1);
    v.go(60);
    due(1, v.ofSaying(0, 2));
    v.list(2, 0, 1);
    v.go(2);
    due(1, v.ofSaying(0, 2));
    v.go(1);
    due(3, v.ofSaying(0, 2));
    // Saying number day / 6 modulo 6.
    NobodySaid w = town(CLERK);
    for (int i = 0; i < 6; i++) w.saying(0, 0, i);
    due(2, w.go(6));
    due(2 + 3, w.go(6));
    due(2 + 3 + 4 + 5 + 6 + 7, w.go(24));
    due(27 + 2, w.go(6));
  }

  static void nowIs() {
    promise(14);
    NobodySaid x = new NobodySaid();
    due(-1, x.now(5));
    x = town(PERSON, GOSSIP, PERSON, NOBODY);
    due(0, x.now(5));
    due(15, x.now(6));
    due(0, x.now(3));
    x.saying(0, 7, 0);
    x.saying(2, 7, 0);
    x.saying(0, 7, 0);
    x.talk(0, 1);
    x.talk(1, 2);
    x.talk(1, 3);
    due(9, x.now(2));
    due(5, x.now(3));
    due(0, x.now(6));
    due(5, x.now(7));
    x.change(1, 3, 7);
    x.change(2, 3, 9);
    x.change(3, 3, 9);
    due(25, x.now(4));
    due(2, x.now(5));
    x.go(6);
    due(6, x.now(0));
    due(1, x.now(1));
    due(3, x.now(5));
    all(BEYOND, x.now(-1), x.now(8), x.now(MIN), x.now(MAX));
  }

  static void ahead() {
    NobodySaid x = chain();
    promise(15);
    due(0, x.ahead(3, 4, 2));
    due(1, x.ahead(3, 4, 3));
    due(0, x.ahead(0, 3, 5));
    due(1, x.ahead(0, 3, 6));
    due(3, x.ahead(0, 3, 100));
    due(0, x.ahead(3, 4, 0));
    all(BEYOND, x.ahead(4, 3, 0), x.ahead(-1, 3, 0), x.ahead(0, 2, 0), x.ahead(0, 5, 0), x.ahead(0, 3, -1), x.ahead(0, 3, 101));
    promise(16);
    due(1, x.spread(0, 0));
    due(3, x.spread(0, 1));
    due(7, x.spread(0, 2));
    due(15, x.spread(0, 3));
    due(15, x.spread(0, 100));
    all(BEYOND, x.spread(1, 0), x.spread(-1, 0), x.spread(0, -1), x.spread(0, 101));
    promise(17);
    for (int p = 0; p < 4; p++) due(p, x.when(0, p));
    x.change(3, 1, 4);
    due(NONE, x.when(0, 3));
    all(BEYOND, x.when(1, 0), x.when(-1, 0), x.when(0, 4), x.when(0, -1));
    promise(18);
    due(0, x.blamed(0, 0));
    due(6, x.blamed(0, 1));
    due(42, x.blamed(0, 2));
    due(186, x.blamed(0, 6));
    due(NONE, x.blamed(0, 7));
    due(0, x.blamed(1, 0));
    due(NONE, x.blamed(1, 1));
    due(NONE, x.blamed(0, 9999));
    all(BEYOND, x.blamed(-1, 0), x.blamed(4, 0), x.blamed(0, -1), x.blamed(0, 10000));
    promise(19);
    due(0, x.fund(0));
    due(6, x.fund(1));
    due(6, x.fund(5));
    due(42, x.fund(6));
    due(NONE, x.fund(31));
    due(NONE, x.fund(99999));
    all(BEYOND, x.fund(-1), x.fund(100000));
    promise(15);
    due(0, x.count(0));
    due(0, x.count(3));
    due(1, x.ofSaying(0, 2));
    // Trials of six sayings from day 4 on come behind 2, 8, .. 200 days.
    NobodySaid y = town(PERSON);
    for (int i = 0; i < 6; i++) y.saying(0, 1, 1);
    y.go(3);
    promise(18);
    due(195, y.blamed(0, 33));
    due(NONE, y.blamed(0, 34));
    promise(19);
    due(195, y.fund(33));
    due(NONE, y.fund(34));
    y.go(1);
    promise(18);
    due(200, y.blamed(0, 34));
    due(NONE, y.blamed(0, 35));
    promise(19);
    due(200, y.fund(34));
    due(NONE, y.fund(35));
    y.go(1);
    due(199, y.fund(34));
    due(NONE, y.fund(35));
    y.change(0, 3, 9999);
    promise(18);
    due(0, y.blamed(0, 9999));
  }

  static void whomToTell() {
    promise(20);
    NobodySaid x = chain();
    due(0, x.beginner(0, 0));
    due(0, x.beginner(0, 6));
    lists(x, 32, 21, 10, 0, 0, 0);
    due(3, x.beginner(0, 6));
    due(3, x.beginner(0, 2));
    lists(x, 0, 21, 10, 0, 0, 0);
    due(2, x.beginner(0, 3));
    due(1, x.ofSaying(0, 2));
    x.talk(0, 3);
    due(2, x.beginner(0, 60));
    due(-1, x.from(0, 0));
    all(BEYOND, x.beginner(1, 0), x.beginner(-1, 0), x.beginner(0, -1), x.beginner(0, 61));

    promise(21);
    NobodySaid y = town(PERSON, PERSON, NOBODY);
    y.saying(0, 7, 5);
    due(0, y.kindFor(0, 0));
    // Whatever 0 is, he began it; but 1 may name nobody, and then 2 pays.
    due(0, y.kindFor(0, 60));
    due(0, y.kindFor(1, 60));
    lists(y, 1, 0, 0, 0, 0, 0);
    y.change(1, 0, GOSSIP);
    due(0, y.kindFor(0, 60));
    due(0, y.kindFor(2, 60));
    y.change(2, 0, GOSSIP);
    due(0, y.kindFor(2, 6));
    // It is about himself: a person keeps it, and is blamed; a gossip gets rid of it.
    NobodySaid z = town(CLERK, GOSSIP, NOBODY);
    z.saying(0, 0, 4);
    due(0, z.kindFor(0, 5));
    due(GOSSIP, z.kindFor(0, 6));
    due(CLERK, z.of(0, 0));
    all(BEYOND, z.kindFor(-1, 0), z.kindFor(3, 0), z.kindFor(0, -1), z.kindFor(0, 61));

    promise(22);
    NobodySaid u = chain();
    due(0, u.trustFor(0, 0, 0));
    due(5, u.trustFor(0, 1, 1));
    due(5, u.trustFor(0, 3, 3));
    due(NONE, u.trustFor(0, 3, 2));
    u.alter(0, 1, 9);
    due(9, u.trustFor(0, 1, 60));
    u.alter(0, 1, 0);
    due(0, u.trustFor(0, 1, 60));
    u.change(1, 0, GOSSIP);
    u.alter(0, 1, 9);
    due(0, u.trustFor(0, 1, 60));
    due(5, u.of(1, 1));
    all(BEYOND, u.trustFor(1, 0, 0), u.trustFor(-1, 0, 0), u.trustFor(0, 4, 0), u.trustFor(0, -1, 0), u.trustFor(0, 0, -1), u.trustFor(0, 0, 61));

    promise(23);
    NobodySaid v = chain();
    due(5, v.weightFor(0, 3));
    due(NONE, v.weightFor(0, 2));
    v.change(2, 1, 3);
    due(3, v.weightFor(0, 60));
    v.change(2, 1, 0);
    due(0, v.weightFor(0, 60));
    due(5, v.ofSaying(0, 1));
    v.change(2, 0, GOSSIP);
    v.change(1, 1, 9);
    v.change(3, 1, 9);
    due(9, v.weightFor(0, 60));
    v.change(1, 0, CHILD);
    v.change(1, 1, 0);
    v.change(3, 1, 8);
    due(7, v.weightFor(0, 60));
    all(BEYOND, v.weightFor(1, 0), v.weightFor(-1, 0), v.weightFor(0, -1), v.weightFor(0, 61));
    NobodySaid one = town(MUTE);
    one.saying(0, 0, 0);
    due(9, one.weightFor(0, 0));

    promise(24);
    NobodySaid w = chain();
    due(0, w.hush(0, 3, 2));
    due(1, w.hush(0, 3, 3));
    due(1, w.hush(0, 1, 20));
    due(NONE, w.hush(0, 0, 0));
    due(0, w.of(0, 2));
    w.talk(0, 1);
    due(2, w.hush(0, 2, 20));
    due(NONE, w.hush(0, 1, 20));
    // Two ways to 3: none of these alone is enough but 3 himself.
    lists(w, 13, 3, 0, 0, 0, 0);
    due(8, w.hush(0, 3, 20));
    due(0, w.hush(0, 2, 20));
    w.change(3, 2, 1);
    due(0, w.hush(0, 3, 20));
    all(BEYOND, w.hush(1, 0, 0), w.hush(-1, 0, 0), w.hush(0, 4, 0), w.hush(0, -1, 0), w.hush(0, 0, -1), w.hush(0, 0, 21));
  }

  static void toldHearers() {
    promise(25);
    NobodySaid x = chain();
    due(MISSING, x.fits(0, 0));
    all(BEYOND, x.fits(-1, 0), x.fits(4, 0));
    due(MISSING, x.fits(0, 9));
    x.sheet(0, 8, 0);
    all(BEYOND, x.fits(0, 1), x.fits(0, -1));
    due(64, x.fits(0, 0));
    paper(x, 0, 8, 1);
    due(64, x.fits(0, 0));
    paper(x, 0, 8, 3);
    due(0, x.fits(0, 0));
    paper(x, 0, 16, -1, 3);
    due(1, x.fits(0, 0));
    paper(x, 0, 16, 1, -1, 7);
    due(1, x.fits(0, 0));
    // 0 tells 1, 2 or 3: then 1 tells 2, and 2 tells 3, if they know.
    paper(x, 0, 32, 1, -1, -1, 13);
    due(1, x.fits(0, 0));
    paper(x, 0, 32, 1, -1, -1, 9);
    due(1, x.fits(0, 0));
    paper(x, 0, 32, 1, 1);
    due(61, x.fits(0, 0));
    paper(x, 0, 32, -1, -1, -1, -1, -1, -1, -1);
    due(64, x.fits(0, 0));
    due(1, x.listed(0));
    x.go(2);
    // The place of day 2 is 2 now; behind one day 2 tells 3.
    due(7, x.ofSaying(0, 2));
    paper(x, 0, 8, 7, 15);
    due(3, x.fits(0, 0));
    // The same place comes again behind six days: 1, who heard it on day 1, tells 3 on day 6.
    x = chain();
    lists(x, 0, 1, 0, 0, 0, 0);
    paper(x, 0, 8, 1, 1, 3, 3, 3, 3, 3, 11);
    due(1, x.fits(0, 0));
    // Of 8 bits 128 is told as -128, and 255 as any.
    NobodySaid y = town(0, 0, 0, 0, 0, 0, 0, 0);
    y.saying(7, 0, 0);
    paper(y, 0, 8, 128);
    due(0, y.fits(0, 0));
    paper(y, 0, 16, 128);
    due(64, y.fits(0, 0));
    paper(y, 0, 8, 255);
    due(64, y.fits(0, 0));
    paper(y, 0, 16, 255);
    due(0, y.fits(0, 0));

    promise(26);
    NobodySaid z = chain();
    due(MISSING, z.kinds(3, 0));
    due(MISSING, z.kinds(3, 9));
    all(BEYOND, z.kinds(-1, 0), z.kinds(4, 0));
    z.sheet(3, 8, 0);
    all(BEYOND, z.kinds(3, 4), z.kinds(3, -1));
    due(127, z.kinds(3, 1));
    paper(z, 3, 8, 0, 1);
    due(127, z.kinds(3, 1));
    // On day 1 a judge takes nothing.
    paper(z, 3, 8, 0, 0, 1);
    due(127 - 8, z.kinds(3, 2));
    paper(z, 3, 8, 0, 0, 0);
    due(8, z.kinds(3, 2));
    paper(z, 3, 8, -1, -1, -1);
    due(127, z.kinds(3, 2));
    z.alter(0, 1, 9);
    paper(z, 3, 8, 0, 1);
    due(2 + 16 + 64, z.kinds(3, 1));
    paper(z, 3, 8, 1);
    due(0, z.kinds(3, 1));
    due(PERSON, z.of(1, 0));
  }

  static void evenings() {
    promise(27);
    NobodySaid x = new NobodySaid();
    all(BEYOND, x.evening(0), x.evening(21), x.evening(-1), x.evening(MAX));
    due(1, x.count(6));
    int z = 1;
    int[] talks = new int[8];
    for (int i = 0; i < 8; i++) {
      z = z * 1103515245 + 12345;
      int a = (z >>> 8) % 8;
      z = z * 1103515245 + 12345;
      talks[i] = 10 * a + (z >>> 8) % 8;
    }
    due(0, x.evening(8));
    due(8, x.now(0));
    due(z, x.count(6));
    due(talks[6], x.listed(0));
    due(talks[7], x.listed(1));
    for (int i = 2; i < 6; i++) due(talks[i], x.listed(i));
    // z 1103527590 comes first: above 8 bits 4310654, its rest by 8 is 6.
    NobodySaid y = town(0, 0, 0, 0, 0, 0, 0, 0);
    y.saying(6, 0, 0);
    due(0, y.evening(1));
    due(6, y.listed(0) / 10);
    due(2, Integer.bitCount(y.ofSaying(0, 2)));
    due(0, y.evening(5));
    due(0, y.count(3));
    NobodySaid w = town(JUDGE);
    w.saying(0, 0, 2);
    due(9, w.evening(20));

    promise(29);
    due(1, new NobodySaid().seed(5));
    NobodySaid u = new NobodySaid();
    u.seed(MIN);
    due(MIN, u.seed(-1000001));
    due(-1000001, u.count(6));
    due(-1000001, u.seed(MAX));
    due(0, u.status(-1));
  }

  static void odds() {
    promise(28);
    NobodySaid x = town(PERSON, GOSSIP, CLERK, JUDGE, NOBODY, MUTE, CHILD);
    x.saying(0, 2, 9);
    due(3, x.odds(0, 0, 1, 0));
    due(5, x.odds(0, 0, 1, 1));
    due(9, x.odds(0, 0, 2, 0));
    due(25, x.odds(0, 0, 2, 1));
    all(1, x.odds(0, 0, 0, 0), x.odds(0, 0, 0, 1));
    all(1, x.odds(0, 1, 18, 0), x.odds(0, 1, 18, 1), x.odds(0, 4, 7, 0), x.odds(0, 4, 7, 1));
    // A clerk never takes what is about himself: none of ten.
    due(0, x.odds(0, 2, 3, 0));
    all(1, x.odds(0, 2, 3, 1), x.odds(0, 2, 0, 0), x.odds(0, 2, 0, 1));
    due(3, x.odds(0, 3, 1, 0));
    x.go(1);
    due(0, x.odds(0, 3, 1, 0));
    due(1, x.odds(0, 3, 1, 1));
    due(3, x.odds(0, 5, 1, 0));
    // A child: 0 to 5, and 7 and 9.
    due(4, x.odds(0, 6, 1, 0));
    due(5, x.odds(0, 6, 1, 1));
    x.change(0, 1, 6);
    due(1628413597910449L, x.odds(0, 0, 18, 0));
    due(1000000000000000000L, x.odds(0, 0, 18, 1));
    x.change(0, 1, 9);
    due(1, x.odds(0, 0, 18, 1));
    x.change(0, 1, 4);
    due(262144, x.odds(0, 0, 18, 1));
    all(BEYOND, x.odds(-1, 0, 0, 0), x.odds(1, 0, 0, 0), x.odds(0, -1, 0, 0), x.odds(0, 7, 0, 0));
    all(BEYOND, x.odds(0, 0, -1, 0), x.odds(0, 0, 19, 0), x.odds(0, 0, 0, -1), x.odds(0, 0, 0, 2));
    due(8, x.status(0));
  }

  static void tape() {
    promise(30);
    NobodySaid x = new NobodySaid();
    all(BEYOND, x.feed(0, 0), x.feed(0, 5), x.feed(0, -1), x.feed(0, MAX));
    for (int i = 1; i <= 29; i++) due(4 * i, x.feed(-1, 4));
    due(118, x.feed(7, 2));
    due(FULL, x.feed(7, 3));
    due(119, x.feed(7, 1));
    due(FULL, x.feed(7, 4));
    due(BEYOND, x.feed(7, 5));
    due(120, x.feed(7, 1));
    due(FULL, x.feed(7, 1));
    promise(31);
    due(120, x.wipe());
    due(0, x.wipe());
    due(0, x.count(5));
    promise(30);
    // The n lowest bytes, the highest of them first.
    x.feed(0x41426d75, 2);
    x.feed(0x41427465, 2);
    due(1, x.text());
    due(MUTE, x.of(0, 0));
  }

  static void texts() {
    promise(32);
    NobodySaid x = new NobodySaid();
    due(9, read(x, "person;gossip trust 0;clerk trust 9 quiet;judge quiet;nobody;mute;child;saying 6 7 9;talk 5 7 6"));
    for (int p = 0; p < 7; p++) due(p, x.of(p, 0));
    due(5, x.of(0, 1));
    due(0, x.of(1, 1));
    due(9, x.of(2, 1));
    due(1, x.of(2, 2));
    due(5, x.of(3, 1));
    due(1, x.of(3, 2));
    due(0, x.of(4, 2));
    due(7, x.ofSaying(0, 0));
    due(9, x.ofSaying(0, 1));
    due(64, x.ofSaying(0, 2));
    due(-1, x.from(0, 6));
    due(76, x.listed(5));
    due(0, x.count(5));
    due(2, read(x, " person ;saying  7 00 0000000000000000009  "));
    due(9, x.ofSaying(1, 1));
    due(1, read(x, "talk0 0 0"));
    due(0, x.listed(0));
    // There is no room for a 9th one: his word.
    due(-1 - 11, read(x, "talk 1 2 3;mute"));
    due(-1, read(x, "mute trust 10"));
    due(1, x.listed(1));
    due(8, x.count(1));
  }

  static void faults() {
    promise(32);
    NobodySaid x = town(PERSON);
    due(-1, read(x, ""));
    due(-1 - 3, read(x, "   "));
    due(-1, read(x, ";"));
    due(-1 - 5, read(x, "mute;"));
    due(-1 - 6, read(x, "mute; "));
    due(-1 - 5, read(x, "mute;;mute"));
    due(-1 - 5, read(x, "mute mute"));
    due(-1, read(x, "mutes"));
    due(-1, read(x, "mut"));
    due(-1, read(x, "Mute"));
    due(-1 - 4, read(x, "mute\t"));
    due(-1 - 4, read(x, "mute" + (char) 255));
    due(-1 - 4, read(x, "mute{"));
    due(-1 - 4, read(x, "mute`"));
    due(-1 - 4, read(x, "mute:"));
    due(-1 - 4, read(x, "mute/"));
    due(-1 - 4, read(x, "mute4"));
    due(-1 - 5, read(x, "mute quietz"));
    due(-1 - 10, read(x, "mute trust"));
    due(-1 - 11, read(x, "mute trust quiet"));
    due(-1 - 11, read(x, "mute trust 10"));
    due(-1 - 11, read(x, "mute trust 4294967296"));
    due(-1 - 11, read(x, "mute trust 10000"));
    due(-1 - 13, read(x, "mute trust 5 trust 5"));
    due(-1 - 11, read(x, "mute quiet trust 5"));
    due(-1 - 11, read(x, "mute quiet quiet"));
    due(-1 - 13, read(x, "mute trust 1 2"));
    due(-1 - 7, read(x, "saying 1 0 0"));
    due(-1 - 9, read(x, "saying 0 8 0"));
    due(-1 - 11, read(x, "saying 0 0 10"));
    due(-1 - 10, read(x, "saying 0 0"));
    due(-1 - 6, read(x, "saying"));
    due(-1 - 7, read(x, "saying ;"));
    due(-1 - 13, read(x, "saying 0 0 0 0"));
    due(-1 - 12, read(x, "mute;saying 2 0 0"));
    due(-1 - 7, read(x, "saying 1 0 0;mute"));
    due(-1 - 5, read(x, "talk 6 0 0"));
    due(-1 - 7, read(x, "talk 0 8 0"));
    due(-1 - 9, read(x, "talk 0 0 8"));
    due(-1 - 8, read(x, "talk 0 0"));
    due(-1, read(x, "trust 5"));
    due(-1, read(x, "quiet"));
    due(-1, read(x, "5"));
    // Nothing changed by all these, and none was a finding.
    due(1, x.count(1));
    due(0, x.count(2));
    due(1, x.listed(0));
    due(0, x.count(5));
    due(0, x.status(-1));
    due(2, read(x, "mute;saying 1 0 0"));
    String said = "saying 0 0 0;";
    due(-1 - 65, read(x, said + said + said + said + said + "saying 9"));
    due(1, x.count(2));
    due(6, read(x, said + said + said + said + said + "talk 0 0 0"));
    due(-1, read(x, said));
    due(6, x.count(2));
    // Just 120 bytes: eleven items, and ten items that end too early.
    String talks = "talk 1 2 3;".repeat(10);
    due(11, read(x, talks + "talk 1 2 3"));
    due(-1 - 120, read(x, talks + "          "));
    due(23, x.listed(1));
    // 120 tokens, of which the first can't stand there.
    due(-1, read(x, ";".repeat(120)));
  }

  static void spots() {
    promise(33);
    NobodySaid x = town(PERSON, GOSSIP, CLERK, JUDGE, NOBODY, MUTE, CHILD);
    all(BEYOND, x.hold(-1, 0), x.hold(10, 0), x.hold(0, -2), x.hold(0, 7), x.hold(MAX, MIN));
    for (int i = 0; i < 7; i++) due(1, x.hold(i, i));
    all(1, x.hold(9, 3), x.hold(8, -1));
    due(8, x.count(7));
    due(1, x.hold(9, -1));
    due(7, x.count(7));
    promise(34);
    int[] kindsOf = {1, 3, 5, 13, 29, 33, 67};
    for (int spot = 0; spot < 7; spot++) {
      for (int kind = 0; kind < 7; kind++) due((kindsOf[spot] >> kind & 1) == 1 ? spot : KIND, x.as(spot, kind));
    }
    all(MISSING, x.as(7, 0), x.as(8, 6), x.as(9, 3));
    all(BEYOND, x.as(-1, 0), x.as(10, 0), x.as(0, -1), x.as(0, 7), x.as(9, 7));
    x.change(0, 0, NOBODY);
    due(0, x.as(0, CLERK));
    due(KIND, x.as(0, GOSSIP));
  }

  static void sheets() {
    promise(35);
    NobodySaid x = new NobodySaid();
    due(40, x.sheet(0, 8, 40));
    due(0, x.sheet(3, 16, 0));
    due(3, x.sheet(1, 32, 3));
    due(0, x.sheet(1, 0, 7));
    due(MISSING, x.load(1));
    due(0, x.sheet(1, 0, 40));
    all(BEYOND, x.sheet(-1, 8, 1), x.sheet(4, 8, 1), x.sheet(0, 1, 1), x.sheet(0, -8, 1), x.sheet(0, 64, 1), x.sheet(0, 24, 1));
    all(BEYOND, x.sheet(-1, 8, -1), x.sheet(0, 9, -1), x.sheet(0, 8, 41), x.sheet(0, 0, 41), x.sheet(0, 32, MAX));
    all(SIZE, x.sheet(0, 8, -1), x.sheet(0, 0, -1), x.sheet(0, 32, MIN));
    due(1, x.write(0, 39, 1));
    promise(36);
    all(BEYOND, x.write(-1, 0, 0), x.write(4, 0, 0), x.write(0, -1, 0), x.write(0, 40, 0), x.write(3, 0, 0));
    all(MISSING, x.write(1, 0, 0), x.write(2, -1, 0));
    // Which numbers a sheet has is told by judge(), against a saying that 0 and 7 heard.
    NobodySaid y = town(0, 0, 0, 0, 0, 0, 0, 0);
    y.saying(0, 1, 0);
    y.talk(0, 7);
    int[] bits = {8, 16, 32};
    int[] same = {0, 129, 129 + 256, 129 + 65536};
    for (int k = 0; k < 3; k++) {
      for (int i = 1; i < same.length; i++) {
        paper(y, 0, bits[k], same[i]);
        boolean told = k > 0 && (i == 1 || k == 1 && i == 3);
        due(told ? 0 : 1, y.judge(0));
      }
    }
    y.saying(1, 1, 0);
    paper(y, 0, 8, 2 - 256, 0);
    paper(y, 1, 16, 129, 2);
    due(0, y.judge(1));
    y.sheet(1, 16, 2);
    due(1, y.judge(1));

    promise(37);
    NobodySaid z = town(0, 0, 0, 0, 0, 0);
    paper(z, 0, 8, 1, 2, 3, 4, 5, 6);
    due(4, z.copy(0, 0, 0, 2, 4));
    due(6, z.load(0));
    int[] moved = {1, 2, 1, 2, 3, 4};
    for (int i = 0; i < 6; i++) due(moved[i], z.of(i, 1));
    due(4, z.copy(0, 2, 0, 0, 4));
    due(6, z.load(0));
    int[] back = {1, 2, 3, 4, 3, 4};
    for (int i = 0; i < 6; i++) due(back[i], z.of(i, 1));
    z.sheet(1, 8, 2);
    due(2, z.copy(0, 4, 1, 0, 2));
    due(2, z.load(1));
    due(3, z.of(0, 1));
    due(4, z.of(1, 1));
    all(0, z.copy(0, 6, 1, 2, 0), z.copy(0, 0, 1, 0, 0));
    all(BEYOND, z.copy(0, 7, 1, 0, 0), z.copy(0, 0, 1, 3, 0), z.copy(0, 5, 1, 0, 2), z.copy(0, 0, 1, 1, 2), z.copy(0, 0, 1, 0, 3));
    all(BEYOND, z.copy(0, -1, 1, 0, 1), z.copy(0, 0, 1, -1, 1), z.copy(0, 0, 1, 0, -1), z.copy(0, MAX, 1, 0, MAX), z.copy(0, 1, 1, MAX, 1), z.copy(0, 1, 1, 1, MAX));
    all(BEYOND, z.copy(-1, 0, 1, 0, 0), z.copy(4, 0, 1, 0, 0), z.copy(0, 0, -1, 0, 0), z.copy(2, 0, 4, 0, 0));
    all(MISSING, z.copy(0, 0, 2, 0, 0), z.copy(2, 0, 0, 0, 0), z.copy(2, -1, 2, 0, 0));
    z.sheet(3, 16, 2);
    all(KIND, z.copy(0, 0, 3, 0, 1), z.copy(3, 0, 0, 0, -1));
  }

  static void loadAndJudge() {
    promise(38);
    NobodySaid x = town(0, 0, 0);
    all(BEYOND, x.load(-1), x.load(4));
    due(MISSING, x.load(2));
    paper(x, 2, 32, 9, 0, 3, 4);
    due(3, x.load(2));
    due(9, x.of(0, 1));
    due(0, x.of(1, 1));
    due(3, x.of(2, 1));
    paper(x, 2, 8, 1, 10, 1);
    due(1, x.load(2));
    due(1, x.of(0, 1));
    due(0, x.of(1, 1));
    due(3, x.of(2, 1));
    paper(x, 2, 8, 255);
    due(0, x.load(2));
    x.sheet(2, 8, 0);
    due(0, x.load(2));
    paper(x, 2, 8, 256 + 7, 6);
    due(2, x.load(2));
    due(7, x.of(0, 1));
    promise(39);
    all(BEYOND, x.judge(-1), x.judge(4));
    due(MISSING, x.judge(0));
    x.sheet(0, 8, 0);
    due(0, x.judge(0));
    paper(x, 0, 8, 0);
    due(1, x.judge(0));
    x.saying(0, 1, 0);
    x.saying(2, 1, 0);
    x.saying(1, 2, 0);
    x.talk(0, 1);
    paper(x, 0, 16, 3, 4);
    due(0, x.judge(0));
    paper(x, 0, 16, 3, -1);
    due(2, x.judge(0));
    paper(x, 0, 16, 3, 4, 2);
    due(0, x.judge(0));
    paper(x, 0, 16, 3, 4, 2, 0);
    due(4, x.judge(0));
    paper(x, 0, 16, 1, 4, 2, 0);
    due(1, x.judge(0));
  }

  static void images() {
    promise(41);
    NobodySaid x = town(PERSON, GOSSIP, NOBODY);
    due(NONE, x.undo());
    x.saying(0, 7, 3);
    x.go(2);
    x.hold(4, 1);
    x.seed(99);
    x.change(1, 3, 5);
    x.list(3, 4, 5);
    promise(40);
    due(1, x.image());
    x.person(CHILD, 1);
    x.saying(1, 2, 3);
    x.talk(1, 2);
    x.go(60);
    x.hold(5, 2);
    x.hold(4, 3);
    x.evening(7);
    for (int what = 0; what < 4; what++) x.change(0, what, 1);
    x.alter(0, 0, 1);
    x.alter(0, 1, 1);
    x.feed(5, 3);
    paper(x, 0, 8, 3);
    promise(41);
    due(2, x.undo());
    due(3, x.count(1));
    due(1, x.count(2));
    due(0, x.count(3));
    due(5, x.count(4));
    due(99, x.count(6));
    due(1, x.count(7));
    due(1, x.as(4, PERSON));
    due(45, x.listed(3));
    all(1, x.listed(0), x.listed(1), x.listed(2), x.listed(4), x.listed(5));
    all(0, x.of(0, 0), x.of(0, 2), x.of(0, 3));
    due(5, x.of(0, 1));
    due(7, x.ofSaying(0, 0));
    due(3, x.ofSaying(0, 1));
    due(3, x.ofSaying(0, 2));
    due(8, x.from(0, 1));
    // The tape and the sheets stay, and so does what is kept.
    due(3, x.count(5));
    due(0, x.judge(0));
    x.go(1);
    due(2, x.undo());
    due(2, x.now(0));
    x.go(5);
    due(1, x.image());
    x.go(5);
    due(7, x.undo());
    due(1, x.status(-1));
    promise(42);
    due(1, x.tear());
    due(0, x.tear());
    due(NONE, x.undo());
    due(7, x.now(0));
    due(2, x.status(3));
    promise(43);
    NobodySaid y = town(PERSON, PERSON);
    y.saying(0, 7, 4);
    y.go(7);
    y.feed(0, 3);
    y.hold(0, 0);
    y.hold(1, 0);
    y.change(1, 3, 6);
    due(7, y.count(0));
    due(2, y.count(1));
    due(1, y.count(2));
    due(4, y.count(3));
    due(7, y.count(4));
    due(3, y.count(5));
    due(1, y.count(6));
    due(2, y.count(7));
    all(BEYOND, y.count(-1), y.count(8), y.count(MAX));
    due(3, y.status(0));
  }

  static void statuses() {
    promise(44);
    NobodySaid x = new NobodySaid();
    x.go(0);
    for (int i = 0; i < 9; i++) x.person(PERSON, 5);
    for (int i = 0; i < 8; i++) x.saying(0, 0, 0);
    for (int i = 0; i < 3; i++) {
      x.hold(0, 0);
      x.as(0, MUTE);
    }
    for (int i = 0; i < 4; i++) x.undo();
    x.change(0, 2, 1);
    for (int i = 0; i < 5; i++) x.talk(0, 1);
    for (int i = 0; i < 6; i++) x.load(0);
    for (int i = 0; i < 7; i++) x.sheet(0, 8, -1);
    int[] found = {1, 3, 3, 4, 5, 6, 7};
    for (int i = 0; i < 7; i++) due(found[i], x.status(i));
    due(29, x.status(-1));
    all(BEYOND, x.status(-2), x.status(7), x.status(MIN), x.status(MAX));
    due(5, x.status(0));
    due(33, x.status(-1));
    x.odds(9, 9, 9, 9);
    due(6, x.status(0));
    x.image();
    x.go(0);
    x.undo();
    due(7, x.status(0));
    x.text();
    due(35, x.status(-1));
  }

  public static void main(String[] args) {
    newObject();
    theList();
    people();
    sayings();
    fromWhom();
    talks();
    days();
    trials();
    nowIs();
    ahead();
    whomToTell();
    toldHearers();
    evenings();
    odds();
    tape();
    texts();
    faults();
    spots();
    sheets();
    loadAndJudge();
    images();
    statuses();
    System.out.println(wrong == 0 ? "all promises hold" : wrong + " answers are not as due");
    if (wrong != 0) System.exit(1);
  }
}
