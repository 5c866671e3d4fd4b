/** In which order findings are told where a call has several, and that a refused call changes nothing, act by act. */
public final class NobodySaidEdgesOrder extends Edges {
  private static final String ORDER = "Each act tells its findings in the order in which they are asked (that of its words)";
  private static final String NOTHING = "one that answers a finding changes nothing but status()";

  /** On the last DAY but one: n 2 or more would be STATE. */
  private static NobodySaid late() { return goTo(99998, lived()); }

  /** Nothing can be found there: only BEYOND and MISSING. */
  private static NobodySaid empty() { return new NobodySaid(); }

  static void order() {
    sentence(TERMS, ORDER, () -> {
      // person, saying: BEYOND, FULL.
      refuses(BEYOND, Edges::full, x -> x.person(7, 0));
      refuses(BEYOND, Edges::full, x -> x.person(0, 10));
      refuses(BEYOND, Edges::full, x -> x.saying(-1, 0, 0));
      refuses(BEYOND, Edges::full, x -> x.saying(0, 8, 0));
      refuses(BEYOND, Edges::full, x -> x.saying(0, 0, 10));
      refuses(FULL, Edges::full, x -> x.person(0, 0));
      refuses(FULL, Edges::full, x -> x.saying(0, 0, 0));
    });
    sentence(TERMS, ORDER, () -> {
      // from, traced: BEYOND of one who can't have HEARD it either, NONE.
      for (int p : new int[] {-1, 5}) {
        refuses(BEYOND, Edges::lived, x -> x.from(0, p));
        refuses(BEYOND, Edges::lived, x -> x.traced(0, p));
      }
      refuses(BEYOND, Edges::lived, x -> x.from(3, 4));
      refuses(BEYOND, Edges::lived, x -> x.traced(3, 4));
      refuses(NONE, Edges::lived, x -> x.from(0, 4));
      refuses(NONE, Edges::lived, x -> x.traced(0, 4));
    });
    sentence(TERMS, ORDER, () -> {
      // talk: BEYOND, also of one and the same who is QUIET; STATE.
      refuses(BEYOND, Edges::lived, x -> x.talk(4, 4));
      refuses(BEYOND, Edges::lived, x -> x.talk(4, 5));
      refuses(BEYOND, Edges::lived, x -> x.talk(5, 4));
      refuses(BEYOND, Edges::lived, x -> x.talk(-1, 4));
      refuses(STATE, Edges::lived, x -> x.talk(4, 0));
    });
    sentence(TERMS, ORDER, () -> {
      // go, evening: BEYOND, STATE.
      refuses(BEYOND, NobodySaidEdgesOrder::late, (x, v) -> x.go(v), 61, 0, MAX);
      refuses(STATE, NobodySaidEdgesOrder::late, (x, v) -> x.go(v), 60, 2);
      refuses(BEYOND, NobodySaidEdgesOrder::late, (x, v) -> x.evening(v), 21, 0, MAX);
      refuses(STATE, NobodySaidEdgesOrder::late, (x, v) -> x.evening(v), 20, 2);
    });
    sentence(TERMS, ORDER, () -> {
      // when, blamed, fund, trustFor, weightFor, hush: BEYOND, NONE.
      refuses(BEYOND, Edges::lived, x -> x.when(0, 5));
      refuses(BEYOND, Edges::lived, x -> x.when(3, 4));
      refuses(BEYOND, Edges::lived, x -> x.blamed(4, 10000));
      refuses(BEYOND, Edges::lived, x -> x.blamed(5, 9999));
      refuses(BEYOND, Edges::lived, x -> x.fund(100000));
      refuses(BEYOND, Edges::lived, x -> x.trustFor(0, 4, 61));
      refuses(BEYOND, Edges::lived, x -> x.trustFor(3, 4, 60));
      refuses(BEYOND, Edges::lived, x -> x.weightFor(0, 61));
      refuses(BEYOND, Edges::lived, x -> x.weightFor(3, 60));
      refuses(BEYOND, Edges::lived, x -> x.hush(0, 0, 21));
      refuses(BEYOND, Edges::lived, x -> x.hush(3, 0, 20));
      refuses(NONE, Edges::lived, x -> x.when(0, 4));
      refuses(NONE, Edges::lived, x -> x.blamed(4, 9999));
      refuses(NONE, Edges::lived, x -> x.fund(99999));
      refuses(NONE, Edges::lived, x -> x.trustFor(0, 4, 60));
      refuses(NONE, Edges::lived, x -> x.weightFor(0, 60));
      refuses(NONE, Edges::lived, x -> x.hush(0, 0, 20));
    });
    sentence(TERMS, ORDER, () -> {
      // fits, kinds: BEYOND of the sheet, MISSING, BEYOND of whom or what it tells.
      refuses(BEYOND, NobodySaidEdgesOrder::empty, x -> x.fits(4, 0));
      refuses(MISSING, NobodySaidEdgesOrder::empty, x -> x.fits(3, 0));
      refuses(BEYOND, NobodySaidEdgesOrder::empty, x -> x.kinds(-1, 0));
      refuses(MISSING, NobodySaidEdgesOrder::empty, x -> x.kinds(0, 0));
      refuses(BEYOND, Edges::lived, x -> x.fits(0, 3));
      refuses(BEYOND, Edges::lived, x -> x.kinds(0, 5));
    });
    sentence(TERMS, ORDER, () -> {
      // feed: BEYOND of n, FULL. as: BEYOND of the spot or the kind, MISSING, KIND.
      refuses(BEYOND, Edges::full, x -> x.feed(0, 5));
      refuses(FULL, Edges::full, x -> x.feed(0, 4));
      refuses(BEYOND, Edges::lived, x -> x.as(10, 7));
      refuses(BEYOND, Edges::lived, x -> x.as(1, 7));
      refuses(BEYOND, Edges::lived, x -> x.as(0, 7));
      refuses(MISSING, Edges::lived, x -> x.as(1, CHILD));
      refuses(KIND, Edges::lived, x -> x.as(0, CHILD));
    });
    sentence(TERMS, ORDER, () -> {
      // sheet: BEYOND of the sheet and the bits, SIZE, BEYOND of n.
      refuses(BEYOND, Edges::lived, x -> x.sheet(4, 7, -1));
      refuses(BEYOND, Edges::lived, x -> x.sheet(4, 8, -1));
      refuses(BEYOND, Edges::lived, x -> x.sheet(0, 7, -1));
      refuses(SIZE, Edges::lived, x -> x.sheet(0, 8, -1));
      refuses(BEYOND, Edges::lived, x -> x.sheet(0, 8, 41));
    });
    sentence(TERMS, ORDER, () -> {
      // write: BEYOND of the sheet, MISSING, BEYOND of the number.
      refuses(BEYOND, Edges::lived, x -> x.write(4, -1, 0));
      refuses(MISSING, Edges::lived, x -> x.write(3, -1, 0));
      refuses(BEYOND, Edges::lived, x -> x.write(0, -1, 0));
      // copy: BEYOND of the sheets, MISSING, KIND, BEYOND of the places and n.
      refuses(BEYOND, Edges::lived, x -> x.copy(3, -1, 4, -1, -1));
      refuses(BEYOND, Edges::lived, x -> x.copy(-1, -1, 3, -1, -1));
      refuses(MISSING, Edges::lived, x -> x.copy(3, -1, 0, -1, -1));
      refuses(MISSING, Edges::lived, x -> x.copy(0, -1, 3, -1, -1));
      refuses(KIND, Edges::lived, x -> x.copy(0, -1, 1, -1, -1));
      refuses(BEYOND, Edges::lived, x -> x.copy(0, -1, 0, -1, -1));
    });
  }

  /** An act that is refused in each town that it is asked of, with that finding. */
  private static void nothing(int finding, Act act, Make... towns) {
    sentence(TERMS, NOTHING, () -> { for (Make make : towns) refuses(finding, make, act); });
  }

  static void refusedActs() {
    Make lived = Edges::lived, full = Edges::full, late = NobodySaidEdgesOrder::late, empty = NobodySaidEdgesOrder::empty;
    nothing(BEYOND, x -> x.list(0, 7, 8), lived, full, late, empty);
    nothing(BEYOND, x -> x.listed(6), lived, full, late, empty);
    nothing(BEYOND, x -> x.person(0, 10), lived, full, late, empty);
    nothing(FULL, x -> x.person(0, 9), full);
    nothing(BEYOND, x -> x.saying(0, 0, 10), lived, full, late, empty);
    nothing(FULL, x -> x.saying(0, 0, 9), full);
    nothing(BEYOND, x -> x.of(0, 5), lived, full, late, empty);
    nothing(BEYOND, x -> x.change(0, 3, 10000), lived, full, late, empty);
    nothing(BEYOND, x -> x.ofSaying(0, 3), lived, full, late, empty);
    nothing(BEYOND, x -> x.alter(0, 1, 10), lived, full, late, empty);
    nothing(BEYOND, x -> x.from(0, 8), lived, full, late, empty);
    nothing(NONE, x -> x.from(0, 4), lived, full, late);
    nothing(BEYOND, x -> x.traced(0, 8), lived, full, late, empty);
    nothing(NONE, x -> x.traced(0, 4), lived, full, late);
    nothing(BEYOND, x -> x.talk(1, 1), lived, full, late, empty);
    nothing(STATE, x -> x.talk(1, 4), lived, late);
    nothing(BEYOND, x -> x.go(61), lived, full, late, empty);
    nothing(STATE, x -> x.go(2), late);
    nothing(BEYOND, x -> x.now(8), lived, full, late, empty);
    nothing(BEYOND, x -> x.ahead(0, 3, 101), lived, full, late, empty);
    nothing(BEYOND, x -> x.spread(0, 101), lived, full, late, empty);
    nothing(BEYOND, x -> x.when(0, 8), lived, full, late, empty);
    nothing(NONE, x -> x.when(0, 4), lived, late);
    nothing(BEYOND, x -> x.blamed(0, 10000), lived, full, late, empty);
    nothing(NONE, x -> x.blamed(4, 9999), lived, full);
    nothing(BEYOND, x -> x.fund(100000), lived, full, late, empty);
    nothing(NONE, x -> x.fund(99999), lived, full, late, empty);
    nothing(BEYOND, x -> x.beginner(0, 61), lived, full, late, empty);
    nothing(BEYOND, x -> x.kindFor(0, 61), lived, full, late, empty);
    nothing(BEYOND, x -> x.trustFor(0, 0, 61), lived, full, late, empty);
    nothing(NONE, x -> x.trustFor(0, 4, 60), lived, late);
    nothing(BEYOND, x -> x.weightFor(0, 61), lived, full, late, empty);
    nothing(NONE, x -> x.weightFor(0, 60), lived, full, late);
    nothing(BEYOND, x -> x.hush(0, 4, 21), lived, full, late, empty);
    nothing(NONE, x -> x.hush(0, 0, 20), lived, late);
    nothing(BEYOND, x -> x.fits(0, 6), lived, full, late);
    nothing(MISSING, x -> x.fits(3, 0), lived, full, late, empty);
    nothing(BEYOND, x -> x.kinds(0, 8), lived, full, late);
    nothing(MISSING, x -> x.kinds(3, 0), lived, full, late, empty);
    nothing(BEYOND, x -> x.evening(21), lived, full, late, empty);
    nothing(STATE, x -> x.evening(2), late);
    nothing(BEYOND, x -> x.odds(0, 0, 19, 0), lived, full, late, empty);
    nothing(BEYOND, x -> x.feed(0, 5), lived, full, late, empty);
    nothing(FULL, x -> x.feed(0, 1), full);
    nothing(BEYOND, x -> x.hold(0, 8), lived, full, late, empty);
    nothing(BEYOND, x -> x.as(0, 7), lived, full, late, empty);
    nothing(MISSING, x -> x.as(1, 0), lived, late, empty);
    nothing(KIND, x -> x.as(0, MUTE), lived, full, late);
    nothing(BEYOND, x -> x.sheet(0, 8, 41), lived, full, late, empty);
    nothing(SIZE, x -> x.sheet(0, 0, -1), lived, full, late, empty);
    nothing(BEYOND, x -> x.write(0, 40, 1), lived, full, late);
    nothing(MISSING, x -> x.write(3, 0, 1), lived, full, late, empty);
    nothing(BEYOND, x -> x.copy(0, 1, 0, 0, 40), lived, full, late);
    nothing(MISSING, x -> x.copy(0, 0, 3, 0, 1), lived, full, late, empty);
    nothing(KIND, x -> x.copy(0, 0, 1, 0, 1), lived, late);
    nothing(BEYOND, x -> x.load(4), lived, full, late, empty);
    nothing(MISSING, x -> x.load(3), lived, full, late, empty);
    nothing(BEYOND, x -> x.judge(4), lived, full, late, empty);
    nothing(MISSING, x -> x.judge(3), lived, full, late, empty);
    nothing(NONE, x -> x.undo(), empty);
    nothing(BEYOND, x -> x.count(8), lived, full, late, empty);
    nothing(BEYOND, x -> x.status(7), lived, full, late, empty);
  }

  public static void main(String[] args) {
    order();
    refusedActs();
    end();
  }
}
