import java.util.function.IntUnaryOperator;

/** The edges of promises 33 to 44: spots, sheets, images, counts. */
public final class NobodySaidEdgesSheets extends Edges {

  static void spots() {
    sentence(TERMS, "SPOTS 0 to 9 hold one of PEOPLE or nothing (at first).", () -> {
      NobodySaid x = town(PERSON);
      for (int spot = 0; spot <= 9; spot++) {
        due(MISSING, x.as(spot, PERSON));
        due(1, x.hold(spot, 0));
        due(0, x.as(spot, PERSON));
        due(spot + 1, x.count(7));
      }
      all(BEYOND, x.hold(10, 0), x.as(10, 0), x.hold(-1, 0), x.as(-1, 0));
    });
    sentence(33, "A SPOT holds one of PEOPLE, or nothing (-1): 1. BEYOND.", () -> {
      NobodySaid x = full();
      for (int p = 0; p < 8; p++) {
        due(1, x.hold(9, p));
        due(p, x.as(9, PERSON));
        due(10, x.count(7));
      }
      due(1, x.hold(9, -1));
      due(MISSING, x.as(9, PERSON));
      due(9, x.count(7));
      due(1, x.hold(9, -1));
      due(9, x.count(7));
      // Of an empty town nothing can be held but nothing.
      due(1, new NobodySaid().hold(0, -1));
      refuses(BEYOND, NobodySaid::new, y -> y.hold(0, 0));
      refuses(BEYOND, Edges::lived, (y, v) -> y.hold(v, 0), -1, 10, MIN, MAX);
      refuses(BEYOND, Edges::lived, (y, v) -> y.hold(v, -1), -1, 10);
      refuses(BEYOND, Edges::lived, (y, v) -> y.hold(0, v), -2, 5, 8, MIN, MAX);
      refuses(BEYOND, Edges::full, (y, v) -> y.hold(0, v), -2, 8);
    });
    sentence(34, "What a SPOT holds as one of a kind (0 to 6): the number.", () -> {
      NobodySaid x = full();
      for (int spot = 0; spot <= 9; spot++) due(7 - spot % 8, x.as(spot, PERSON));
      refuses(BEYOND, Edges::full, (y, v) -> y.as(v, 0), -1, 10, MIN, MAX);
      refuses(BEYOND, Edges::full, (y, v) -> y.as(0, v), -1, 7, MIN, MAX);
      changesNothing(Edges::lived, y -> y.as(0, 0));
    });
    sentence(34, "BEYOND. MISSING: it holds nothing.", () -> {
      refuses(MISSING, Edges::lived, (x, v) -> x.as(v, 0), 1, 3, 5, 8);
      refuses(MISSING, Edges::lived, (x, v) -> x.as(1, v), 0, 6);
      refuses(MISSING, NobodySaid::new, (x, v) -> x.as(v, 6), 0, 9);
      // A kind that is none is asked ahead of that.
      refuses(BEYOND, Edges::lived, (x, v) -> x.as(1, v), -1, 7);
    });
    sentence(34, "KIND: it isn't of that kind, nor of one under it.", () -> {
      // Who is of a kind: each kind, and those under it.
      int[][] under = {{0, 1, 2, 3, 4, 5, 6}, {1, 6}, {2, 3, 4}, {3, 4}, {4}, {5}, {6}};
      for (int kind = 0; kind < 7; kind++) {
        NobodySaid x = town(PERSON, kind);
        x.hold(5, 1);
        for (int asked = 0; asked < 7; asked++) {
          boolean is = false;
          for (int one : under[asked]) is |= one == kind;
          due(is ? 1 : KIND, x.as(5, asked));
        }
      }
      refuses(KIND, Edges::lived, (x, v) -> x.as(0, v), CLERK, JUDGE, NOBODY, MUTE, CHILD);
      // What he is now counts, not what he was.
      NobodySaid y = lived();
      due(KIND, y.as(0, CLERK));
      y.change(1, 0, NOBODY);
      due(1, y.as(0, CLERK));
      due(KIND, y.as(0, GOSSIP));
    });
  }

  /** A town whose first SAYING was HEARD by that set of eight. */
  private static NobodySaid heardBy(int set) {
    NobodySaid x = town(0, 0, 0, 0, 0, 0, 0, 0);
    int first = Integer.numberOfTrailingZeros(set);
    x.saying(first, 0, 0);
    x.alter(0, 0, (first + 1) % 8);
    for (int p = 0; p < 8; p++) if (p != first && (set >> p & 1) == 1) x.talk(first, p);
    return x;
  }

  static void newSheets() {
    sentence(TERMS, "SHEETS 0 to 3: rows of at most 40 numbers of 8, 16 or 32 bits", () -> {
      for (int s = 0; s <= 3; s++) {
        for (int bits : new int[] {8, 16, 32}) {
          NobodySaid x = town(PERSON);
          due(40, x.sheet(s, bits, 40));
          due(40, size(x, s));
          due(1, x.write(s, 39, 9));
          due(9, number(x, s, 39));
          due(BEYOND, x.write(s, 40, 9));
          due(BEYOND, x.sheet(s, bits, 41));
          due(40, size(x, s));
        }
      }
    });
    sentence(TERMS, "or MISSING (at first)", () -> {
      NobodySaid x = town(PERSON);
      x.saying(0, 0, 0);
      for (int s = 0; s <= 3; s++) {
        all(MISSING, x.load(s), x.judge(s), x.write(s, 0, 0), x.copy(s, 0, s, 0, 0), x.fits(s, 0), x.kinds(s, 0));
      }
    });
    sentence(35, "A sheet has n numbers, all 0, of 8, 16 or 32 bits", () -> {
      // Those that were there before are gone, also where a shorter row stood between.
      NobodySaid x = town(0, 0, 0, 0, 0, 0, 0, 0);
      paper(x, 0, 8, 9, 9, 9, 9, 9, 9);
      due(2, x.sheet(0, 8, 2));
      due(2, size(x, 0));
      due(6, x.sheet(0, 16, 6));
      due(6, x.load(0));
      for (int p = 0; p < 6; p++) due(0, x.of(p, 1));
      due(5, x.of(6, 1));
      // The other sheets stay.
      paper(x, 1, 8, 7);
      x.sheet(0, 8, 40);
      due(1, size(x, 1));
      due(7, number(x, 1, 0));
      for (int bits : new int[] {8, 16, 32}) {
        due(0, x.sheet(2, bits, 0));
        due(0, x.load(2));
        due(0, x.judge(2));
        due(BEYOND, x.write(2, 0, 0));
      }
    });
    sentence(35, "bits 0: it is MISSING: n (0 if it is MISSING)", () -> {
      NobodySaid x = lived();
      due(0, x.sheet(0, 0, 0));
      due(MISSING, x.load(0));
      due(0, x.sheet(1, 0, 40));
      due(MISSING, x.load(1));
      due(0, x.sheet(3, 0, 7));
      due(MISSING, x.load(3));
      due(1, size(x, 2));
      // It comes again with all 0.
      due(3, x.sheet(0, 8, 3));
      due(0, number(x, 0, 0));
      due(1, x.sheet(0, 32, 1));
      due(40, x.sheet(0, 16, 40));
    });
    sentence(35, "BEYOND: no such sheet, other bits.", () -> {
      refuses(BEYOND, Edges::lived, (x, v) -> x.sheet(v, 8, 1), -1, 4, MIN, MAX);
      refuses(BEYOND, Edges::lived, (x, v) -> x.sheet(v, 0, 1), -1, 4);
      refuses(BEYOND, Edges::lived, (x, v) -> x.sheet(0, v, 1), -1, 1, 7, 9, 15, 17, 24, 31, 33, 64, -8, -16, -32, 256 + 8, MIN, MAX);
    });
    sentence(35, "SIZE: n is below 0 (also with bits 0).", () -> {
      for (int bits : new int[] {0, 8, 16, 32}) refuses(SIZE, Edges::lived, (x, v) -> x.sheet(0, bits, v), -1, -40, MIN);
      // No such sheet and other bits are asked ahead of it.
      refuses(BEYOND, Edges::lived, (x, v) -> x.sheet(v, 8, -1), -1, 4);
      refuses(BEYOND, Edges::lived, (x, v) -> x.sheet(0, v, -1), 1, 9, -1);
    });
    sentence(35, "BEYOND: n is above 40 (also with bits 0).", () -> {
      for (int bits : new int[] {0, 8, 16, 32}) {
        refuses(BEYOND, Edges::lived, (x, v) -> x.sheet(0, bits, v), 41, MAX);
        takes(Edges::lived, (x, v) -> x.sheet(0, bits, v), 0, 40);
      }
    });
  }

  static void writing() {
    sentence(36, "Number i of a sheet becomes v (its lowest bits): 1.", () -> {
      // A value is 0 to 9 behind it just where its lowest bits are.
      int[] many = {0, 1, 9, 10, 127, 128, 255, 256, 256 + 1, 256 + 3, 32767, 32768, 65535, 65536, 65536 + 4, 1 << 24, (1 << 24) + 5, -1, -9, -128, -129,
          -256, -256 + 6, -32768, -32769, -65536, -65536 + 7, MIN, MIN + 8, MAX, MAX - 255 + 2};
      IntUnaryOperator[] lowest = {v -> (byte) v, v -> (short) v, v -> v};
      int[] bits = {8, 16, 32};
      for (int k = 0; k < 3; k++) {
        for (int v : many) {
          NobodySaid x = town(PERSON);
          x.saying(0, 1, 0);
          x.sheet(3, bits[k], 2);
          due(1, x.write(3, 1, v));
          int told = lowest[k].applyAsInt(v);
          due(told >= 0 && told <= 9 ? told : -1, number(x, 3, 1));
          // -1 is told as any, 1 is who HEARD it.
          due(told == -1 || told == 1 ? 64 : 0, x.fits(3, 0));
        }
      }
    });
    sentence(TERMS, "(told with their sign: of 8 bits 255 is -1, and so compared)", () -> {
      // The set of all eight is 255, and that of the last is 128: of 8 bits no number is that.
      int[] sets = {127, 128, 129, 255};
      int[] bits = {8, 16, 32};
      for (int set : sets) {
        for (int width : bits) {
          NobodySaid x = heardBy(set);
          due(set, x.ofSaying(0, 2));
          paper(x, 0, width, set);
          due(width == 8 && set > 127 ? 1 : 0, x.judge(0));
          paper(x, 0, width, set - 256);
          due(width == 8 && set <= 127 ? 0 : 1, x.judge(0));
          paper(x, 0, width, set + 256);
          due(width == 8 && set <= 127 ? 0 : 1, x.judge(0));
          paper(x, 0, width, set + 65536);
          due(width == 16 || width == 8 && set <= 127 ? 0 : 1, x.judge(0));
        }
      }
    });
    sentence(36, "BEYOND: no such sheet. MISSING. BEYOND: no such number.", () -> {
      refuses(BEYOND, Edges::lived, (x, v) -> x.write(v, 0, 7), -1, 4, MIN, MAX);
      refuses(BEYOND, Edges::lived, (x, v) -> x.write(v, -1, 7), -1, 4);
      refuses(MISSING, Edges::lived, (x, v) -> x.write(3, v, 7), 0, 40, -1, MIN, MAX);
      refuses(BEYOND, Edges::lived, (x, v) -> x.write(0, v, 7), -1, 3, 40, MIN, MAX);
      refuses(BEYOND, Edges::full, (x, v) -> x.write(0, v, 7), -1, 40, MIN, MAX);
      takes(Edges::full, (x, v) -> x.write(0, v, 7), 0, 39);
      takes(Edges::lived, (x, v) -> x.write(0, v, 7), 0, 2);
      NobodySaid y = town(PERSON);
      y.sheet(0, 8, 0);
      all(BEYOND, y.write(0, 0, 0), y.write(0, -1, 0));
    });
  }

  private static void has(NobodySaid x, int s, int... numbers) {
    due(numbers.length, size(x, s));
    due(Math.min(numbers.length, x.count(1)), x.load(s));
    for (int i = 0; i < Math.min(numbers.length, x.count(1)); i++) due(numbers[i], x.of(i, 1));
  }

  private static NobodySaid copying() {
    NobodySaid x = town(0, 0, 0, 0, 0, 0, 0, 0);
    paper(x, 0, 8, 1, 2, 3, 4, 5, 6);
    paper(x, 1, 8, 9, 9, 9);
    paper(x, 2, 16, 7, 7);
    return x;
  }

  static void copies() {
    sentence(37, "n numbers of a sheet from one on come to another one from one on (as they all were): n.", () -> {
      NobodySaid x = copying();
      due(3, x.copy(0, 3, 1, 0, 3));
      has(x, 1, 4, 5, 6);
      has(x, 0, 1, 2, 3, 4, 5, 6);
      due(1, x.copy(1, 2, 0, 5, 1));
      due(1, x.copy(0, 0, 1, 2, 1));
      has(x, 1, 4, 5, 1);
      // The same sheet, over itself, forward and back, and just where it stands.
      x = copying();
      due(4, x.copy(0, 0, 0, 2, 4));
      has(x, 0, 1, 2, 1, 2, 3, 4);
      x = copying();
      due(4, x.copy(0, 2, 0, 0, 4));
      has(x, 0, 3, 4, 5, 6, 5, 6);
      x = copying();
      due(6, x.copy(0, 0, 0, 0, 6));
      has(x, 0, 1, 2, 3, 4, 5, 6);
      due(5, x.copy(0, 0, 0, 1, 5));
      has(x, 0, 1, 1, 2, 3, 4, 5);
      // A full one, whole.
      NobodySaid y = full();
      y.sheet(3, 8, 40);
      due(40, y.copy(0, 0, 3, 0, 40));
      due(8, number(y, 3, 39));
      due(39, y.copy(3, 0, 3, 1, 39));
      // With their sign: -1 of 8 bits stays -1.
      NobodySaid z = chain();
      paper(z, 0, 8, 255);
      paper(z, 1, 8, 0);
      z.copy(0, 0, 1, 0, 1);
      due(64, z.fits(1, 0));
    });
    sentence(37, "BEYOND: no such sheet (either). MISSING: one is.", () -> {
      refuses(BEYOND, Edges::lived, (x, v) -> x.copy(v, 0, 0, 0, 1), -1, 4, MIN, MAX);
      refuses(BEYOND, Edges::lived, (x, v) -> x.copy(0, 0, v, 0, 1), -1, 4, MIN, MAX);
      // No such sheet is asked ahead of a MISSING one, whichever comes first.
      refuses(BEYOND, Edges::lived, (x, v) -> x.copy(v, 0, 3, 0, 1), -1, 4);
      refuses(BEYOND, Edges::lived, (x, v) -> x.copy(3, 0, v, 0, 1), -1, 4);
      refuses(MISSING, Edges::lived, x -> x.copy(0, 0, 3, 0, 0));
      refuses(MISSING, Edges::lived, x -> x.copy(3, 0, 0, 0, 0));
      refuses(MISSING, Edges::lived, x -> x.copy(3, 0, 3, 0, 0));
      refuses(MISSING, Edges::lived, x -> x.copy(3, -1, 0, 99, -1));
    });
    sentence(37, "KIND: they are not of as many bits.", () -> {
      refuses(KIND, Edges::lived, x -> x.copy(0, 0, 1, 0, 1));
      refuses(KIND, Edges::lived, x -> x.copy(1, 0, 0, 0, 1));
      refuses(KIND, Edges::lived, x -> x.copy(1, 0, 2, 0, 0));
      refuses(KIND, Edges::lived, x -> x.copy(2, 0, 0, 0, 1));
      // It is asked ahead of places and n.
      refuses(KIND, Edges::lived, x -> x.copy(0, -1, 1, 0, 1));
      refuses(KIND, Edges::lived, x -> x.copy(0, 0, 1, 99, -1));
    });
    sentence(37, "BEYOND: one has not so many from there on (n 0, too), or from, to or n is below 0.", () -> {
      // Sheet 0 has 6 numbers, sheet 1 has 3.
      takes(NobodySaidEdgesSheets::copying, (x, v) -> x.copy(0, v, 1, 0, 1), 0, 5);
      refuses(BEYOND, NobodySaidEdgesSheets::copying, (x, v) -> x.copy(0, v, 1, 0, 1), -1, 6, 7, MIN, MAX);
      takes(NobodySaidEdgesSheets::copying, (x, v) -> x.copy(0, 0, 1, v, 1), 0, 2);
      refuses(BEYOND, NobodySaidEdgesSheets::copying, (x, v) -> x.copy(0, 0, 1, v, 1), -1, 3, 4, MIN, MAX);
      takes(NobodySaidEdgesSheets::copying, (x, v) -> x.copy(0, 0, 1, 0, v), 0, 3);
      refuses(BEYOND, NobodySaidEdgesSheets::copying, (x, v) -> x.copy(0, 0, 1, 0, v), -1, 4, MIN, MAX);
      takes(NobodySaidEdgesSheets::copying, (x, v) -> x.copy(1, 0, 0, 0, v), 0, 3);
      refuses(BEYOND, NobodySaidEdgesSheets::copying, (x, v) -> x.copy(1, 0, 0, 0, v), -1, 4, MIN, MAX);
      // Of none: from the end on there are none, and farther on there is no such place.
      NobodySaid y = copying();
      all(0, y.copy(0, 6, 1, 3, 0), y.copy(0, 0, 1, 0, 0), y.copy(1, 3, 0, 6, 0));
      refuses(BEYOND, NobodySaidEdgesSheets::copying, (x, v) -> x.copy(0, v, 1, 0, 0), 7, -1, MIN, MAX);
      refuses(BEYOND, NobodySaidEdgesSheets::copying, (x, v) -> x.copy(0, 0, 1, v, 0), 4, -1, MIN, MAX);
      // Sums that would wrap around.
      refuses(BEYOND, NobodySaidEdgesSheets::copying, x -> x.copy(0, MAX, 1, 0, MAX));
      refuses(BEYOND, NobodySaidEdgesSheets::copying, x -> x.copy(0, 1, 1, 1, MAX));
      refuses(BEYOND, NobodySaidEdgesSheets::copying, x -> x.copy(0, MAX, 1, MAX, 1));
      refuses(BEYOND, NobodySaidEdgesSheets::copying, x -> x.copy(0, MIN, 1, MIN, MIN));
      NobodySaid z = new NobodySaid();
      z.sheet(0, 8, 0);
      due(0, z.copy(0, 0, 0, 0, 0));
      all(BEYOND, z.copy(0, 0, 0, 0, 1), z.copy(0, 1, 0, 0, 0), z.copy(0, 0, 0, 1, 0));
    });
  }

  static void loading() {
    sentence(38, "Numbers of a sheet, from its begin on, become TRUST of PEOPLE 0, 1, ..: how many came.", () -> {
      NobodySaid x = town(0, 0, 0, 0, 0, 0, 0, 0);
      paper(x, 0, 8, 9, 0, 8, 1, 7, 2, 6, 3);
      due(8, x.load(0));
      int[] trust = {9, 0, 8, 1, 7, 2, 6, 3};
      for (int p = 0; p < 8; p++) due(trust[p], x.of(p, 1));
      // A sheet of none, and a shorter one.
      x.sheet(0, 8, 0);
      due(0, x.load(0));
      paper(x, 0, 32, 4);
      due(1, x.load(0));
      due(4, x.of(0, 1));
      due(0, x.of(1, 1));
    });
    sentence(38, "It ends at the first that isn't 0 to 9, or for which there is nobody.", () -> {
      for (int wrong : new int[] {10, -1, 127, -128, 255, 128}) {
        for (int place = 0; place < 4; place++) {
          NobodySaid x = town(0, 0, 0, 0);
          paper(x, 0, 8, 1, 2, 3, 4);
          x.write(0, place, wrong);
          due(place, x.load(0));
          for (int p = 0; p < 4; p++) due(p < place ? p + 1 : 5, x.of(p, 1));
        }
      }
      NobodySaid y = town(0, 0, 0);
      paper(y, 0, 16, 0, 9, 0, 9);
      due(3, y.load(0));
      due(9, y.of(1, 1));
      y.person(0, 5);
      due(4, y.load(0));
      due(9, y.of(3, 1));
      NobodySaid none = new NobodySaid();
      none.sheet(0, 8, 40);
      due(0, none.load(0));
      NobodySaid z = full();
      due(8, z.load(0));
      due(7, z.of(1, 1));
      due(0, z.of(7, 1));
    });
    sentence(38, "BEYOND: no such sheet. MISSING.", () -> {
      refuses(BEYOND, Edges::lived, (x, v) -> x.load(v), -1, 4, MIN, MAX);
      refuses(MISSING, Edges::lived, x -> x.load(3));
      takes(Edges::lived, (x, v) -> x.load(v), 0, 2);
      // The sheet itself stays.
      NobodySaid x = copying();
      x.load(0);
      has(x, 0, 1, 2, 3, 4, 5, 6);
    });
  }

  static void judging() {
    sentence(39, "numbers of a sheet are who HEARD SAYINGS 0, 1, ..: 0 if so; else 1 and the place of the first that isn't so", () -> {
      NobodySaid x = town(0, 0, 0, 0, 0, 0, 0, 0);
      for (int s = 0; s < 6; s++) x.saying(s, 7, 0);
      paper(x, 0, 8, 1, 2, 4, 8, 16, 32);
      due(0, x.judge(0));
      for (int place = 5; place >= 0; place--) {
        x.write(0, place, 0);
        due(1 + place, x.judge(0));
      }
      // One more or one less than HEARD it isn't so; -1 isn't any here.
      for (int v : new int[] {0, 3, -1, -127, 255}) {
        paper(x, 0, 8, v);
        due(1, x.judge(0));
      }
    });
    sentence(39, "(one for which there is no SAYING isn't so; SAYINGS beyond the sheet aren't asked)", () -> {
      NobodySaid x = town(0);
      x.sheet(0, 8, 0);
      due(0, x.judge(0));
      x.sheet(0, 8, 1);
      due(1, x.judge(0));
      x.saying(0, 7, 0);
      due(1, x.judge(0));
      x.write(0, 0, 1);
      due(0, x.judge(0));
      for (int s = 1; s < 6; s++) {
        x.saying(0, 7, 0);
        due(0, x.judge(0));
      }
      paper(x, 0, 8, 1, 1, 1, 1, 1, 1);
      due(0, x.judge(0));
      paper(x, 0, 8, 1, 1, 1, 1, 1, 1, 0);
      due(7, x.judge(0));
      x.sheet(0, 8, 40);
      for (int i = 0; i < 40; i++) x.write(0, i, 1);
      due(7, x.judge(0));
      x.sheet(0, 8, 0);
      due(0, x.judge(0));
      NobodySaid none = new NobodySaid();
      none.sheet(0, 8, 40);
      due(1, none.judge(0));
      none.write(0, 0, -1);
      due(1, none.judge(0));
    });
    sentence(39, "BEYOND: no such sheet. MISSING.", () -> {
      refuses(BEYOND, Edges::lived, (x, v) -> x.judge(v), -1, 4, MIN, MAX);
      refuses(MISSING, Edges::lived, x -> x.judge(3));
      takes(Edges::lived, (x, v) -> x.judge(v), 0, 2);
      changesNothing(Edges::lived, x -> x.judge(0));
    });
  }

  /** Nothing is as it was then, but for the tape and the sheets. */
  private static void turnOver(NobodySaid x) {
    x.person(CHILD, 1);
    int[] quiet = new int[8];
    for (int p = 0; p < x.count(1); p++) {
      x.change(p, 0, GOSSIP);
      quiet[p] = x.change(p, 2, 0);
    }
    x.saying(0, 1, 2);
    for (int p = 1; p < x.count(1); p++) {
      x.talk(p - 1, p);
      x.talk(p, p - 1);
    }
    for (int p = 0; p < x.count(1); p++) {
      x.change(p, 0, (x.of(p, 0) + 3) % 7);
      x.change(p, 1, (x.of(p, 1) + 1) % 10);
      x.change(p, 2, 1 - quiet[p]);
      x.change(p, 3, 77 + p);
    }
    for (int s = 0; s < x.count(2); s++) {
      x.alter(s, 0, (x.ofSaying(s, 0) + 1) % 8);
      x.alter(s, 1, (x.ofSaying(s, 1) + 1) % 10);
    }
    lists(x, 7, 7, 7, 7, 7, 7);
    x.go(60);
    x.evening(20);
    for (int spot = 0; spot < 10; spot++) x.hold(spot, spot % 2 == 0 ? -1 : 0);
  }

  static void images() {
    sentence(40, "All but THE TAPE and SHEETS is kept: 1.", () -> {
      // Everything else is as it was, whatever came between, in a town with room left and in a full one.
      for (Make make : new Make[] {Edges::lived, Edges::full}) {
        NobodySaid x = make.make();
        due(1, x.image());
        turnOver(x);
        due(make.make().now(0), x.undo());
        same(print(imaged(make.make())), print(x));
      }
      // The tape and the sheets are as they came to be.
      NobodySaid y = lived();
      y.image();
      y.wipe();
      feed(y, "talk 0 2 2");
      paper(y, 0, 16, 7);
      y.sheet(1, 0, 0);
      paper(y, 3, 8, 1, 2);
      y.undo();
      due(10, y.count(5));
      due(1, y.text());
      due(22, y.listed(0));
      due(1, size(y, 0));
      due(7, number(y, 0, 0));
      due(KIND, y.copy(0, 0, 3, 0, 0));
      due(MISSING, y.load(1));
      due(2, size(y, 3));
    });
    sentence(40, "is kept: 1", () -> {
      // Of an empty town as well.
      NobodySaid x = new NobodySaid();
      due(1, x.image());
      x.person(0, 0);
      x.go(1);
      x.hold(0, 0);
      due(0, x.undo());
      same(print(imaged(new NobodySaid())), print(x));
    });
    sentence(41, "It becomes what was kept latest (which stays): DAY.", () -> {
      NobodySaid x = new NobodySaid();
      x.go(3);
      x.image();
      x.go(3);
      x.image();
      x.go(3);
      due(6, x.undo());
      due(6, x.now(0));
      due(6, x.undo());
      x.go(60);
      due(6, x.undo());
      // What is done behind undo() doesn't reach what is kept.
      x.person(0, 9);
      x.list(0, 7, 7);
      x.seed(5);
      due(6, x.undo());
      due(0, x.count(1));
      due(1, x.listed(0));
      due(1, x.seed(5));
    });
    sentence(41, "NONE: nothing is kept.", () -> {
      refuses(NONE, NobodySaid::new, x -> x.undo());
      refuses(NONE, Edges::chain, x -> x.undo());
      refuses(NONE, () -> { NobodySaid x = lived(); x.tear(); return x; }, x -> x.undo());
      // undo() takes no finding back.
      NobodySaid y = new NobodySaid();
      y.image();
      y.go(0);
      due(0, y.undo());
      due(1, y.status(0));
      due(1, y.status(-1));
    });
    sentence(42, "Nothing is kept: 1 if something was, else 0.", () -> {
      NobodySaid x = new NobodySaid();
      due(0, x.tear());
      x.image();
      x.image();
      due(1, x.tear());
      due(0, x.tear());
      due(NONE, x.undo());
      x.image();
      x.undo();
      due(1, x.tear());
      due(NONE, x.undo());
      due(1, x.image());
      due(0, x.undo());
      // The town itself stays.
      NobodySaid y = lived(), z = lived();
      due(1, y.tear());
      due(8, y.now(0));
      due(z.of(0, 3), y.of(0, 3));
      due(99, y.count(6));
      due(23, y.count(5));
    });
  }

  private static NobodySaid imaged(NobodySaid x) { x.image(); return x; }

  static void counts() {
    sentence(43, "0 DAY, 1 PEOPLE, 2 SAYINGS, 3 FUND, 4 BLAMED of all together, 5 bytes of THE TAPE, 6 z, 7 SPOTS that hold something.", () -> {
      NobodySaid x = new NobodySaid();
      int[] first = {0, 0, 0, 0, 0, 0, 1, 0};
      for (int what = 0; what <= 7; what++) due(first[what], x.count(what));
      NobodySaid y = full();
      for (int p = 0; p < 8; p++) y.change(p, 3, 9999);
      y.seed(MIN);
      int[] most = {9, 8, 6, y.now(1), 8 * 9999, 120, MIN, 10};
      for (int what = 0; what <= 7; what++) due(most[what], y.count(what));
      NobodySaid z = town(CLERK, PERSON, PERSON);
      z.saying(0, 7, 4);
      z.saying(0, 7, 4);
      z.go(7);
      z.feed(0, 3);
      z.hold(0, 0);
      z.hold(9, 0);
      z.hold(4, 2);
      z.hold(4, -1);
      int[] some = {7, 3, 2, 6, 1, 3, 1, 2};
      for (int what = 0; what <= 7; what++) due(some[what], z.count(what));
    });
    sentence(43, "BEYOND: another what.", () -> {
      refuses(BEYOND, Edges::lived, (x, v) -> x.count(v), -1, 8, MIN, MAX);
      refuses(BEYOND, NobodySaid::new, (x, v) -> x.count(v), -1, 8);
      for (int what = 0; what <= 7; what++) {
        int k = what;
        changesNothing(Edges::lived, x -> x.count(k));
      }
    });
    sentence(44, "which -1: all, 0 to 6: BEYOND to SIZE.", () -> {
      NobodySaid x = full();
      x.change(0, 2, 1);
      for (int which = -1; which <= 6; which++) due(0, x.status(which));
      Act[] acts = {y -> y.go(0), y -> y.person(0, 0), y -> y.as(7, GOSSIP), y -> y.from(0, 0), y -> y.talk(0, 1), y -> y.load(3), y -> y.sheet(0, 0, -1)};
      int all = 0;
      for (int which = 0; which <= 6; which++) {
        for (int i = 0; i <= which; i++) {
          due(BEYOND - which, acts[which].on(x));
          all++;
          due(i + 1, x.status(which));
          due(all, x.status(-1));
        }
      }
      for (int which = 0; which <= 6; which++) due(which + 1, x.status(which));
    });
    sentence(44, "How many acts answered a finding ever (undo() takes none back)", () -> {
      NobodySaid x = new NobodySaid();
      x.go(0);
      x.image();
      x.go(0);
      x.load(0);
      due(2, x.status(0));
      x.undo();
      due(2, x.status(0));
      due(1, x.status(5));
      due(3, x.status(-1));
      x.undo();
      x.tear();
      due(3, x.status(-1));
      // One act counts once, a FAULT not at all, and z isn't one.
      x.text();
      x.seed(-1000001);
      x.count(6);
      x.seed(1);
      due(3, x.status(-1));
      // Nor does any answer that isn't one.
      NobodySaid y = chain();
      y.go(6);
      y.talk(0, 3);
      y.status(-1);
      y.status(6);
      due(0, y.status(-1));
    });
    sentence(44, "BEYOND (counted from then on): another one.", () -> {
      refuses(BEYOND, Edges::lived, (x, v) -> x.status(v), -2, 7, MIN, MAX);
      NobodySaid x = new NobodySaid();
      due(BEYOND, x.status(7));
      due(1, x.status(0));
      due(BEYOND, x.status(-2));
      due(2, x.status(0));
      due(2, x.status(-1));
      changesNothing(Edges::lived, y -> y.status(0));
    });
  }

  public static void main(String[] args) {
    spots();
    newSheets();
    writing();
    copies();
    loading();
    judging();
    images();
    counts();
    end();
  }
}
