/** The edges of the terms 3 and of promises 30 to 32: the tape, its tokens, texts and their faults. */
public final class NobodySaidEdgesTexts extends Edges {

  /** A text is at fault at a place: the answer is -1 less it, the tape is empty, and nothing else is changed. */
  private static void fault(int place, String text) { fault(place, text, () -> town(PERSON)); }

  private static void fault(int place, String text, Make make) {
    NobodySaid x = make.make();
    int before = x.status(-1);
    due(-1 - place, read(x, text));
    due(0, x.count(5));
    due(before, x.status(-1));
    NobodySaid untouched = make.make();
    untouched.wipe();
    same(print(untouched), print(x));
  }

  private static void items(int many, String text) { due(many, read(town(PERSON), text)); }

  static void tape() {
    sentence(TERMS, "THE TAPE (bytes, at most 120)", () -> {
      NobodySaid x = new NobodySaid();
      for (int i = 1; i <= 30; i++) due(4 * i, x.feed(-1, 4));
      due(120, x.count(5));
      for (int n = 1; n <= 4; n++) due(FULL, x.feed(0, n));
      due(120, x.count(5));
      NobodySaid y = new NobodySaid();
      for (int i = 1; i <= 120; i++) due(i, y.feed(' ', 1));
      due(FULL, y.feed(' ', 1));
      due(-1 - 120, y.text());
    });
    sentence(30, "the n lowest bytes of a number behind it, the highest of these first (n 1 to 4)", () -> {
      // What stands above the n lowest bytes isn't taken.
      for (int above : new int[] {0, -1, 0x41414141, MIN, MAX}) {
        NobodySaid x = new NobodySaid();
        due(1, x.feed(above << 8 | 'm', 1));
        due(3, x.feed(above << 16 | 'u' << 8 | 't', 2));
        due(6, x.feed(above << 24 | 'e' << 16 | ';' << 8 | 'm', 3));
        due(10, x.feed('u' << 24 | 't' << 16 | 'e' << 8 | ';', 4));
        due(12, x.feed(above << 16 | 'm' << 8 | 'u', 2));
        due(14, x.feed(above << 16 | 't' << 8 | 'e', 2));
        due(3, x.text());
        for (int p = 0; p < 3; p++) due(MUTE, x.of(p, 0));
      }
      // The highest byte of four may be above 127: it is a byte, which begins no token.
      NobodySaid y = new NobodySaid();
      y.feed(0xff6d7574, 4);
      y.feed('e', 1);
      due(-1, y.text());
      y.feed('m' << 24 | 'u' << 16 | 't' << 8 | 'e', 4);
      y.feed(0xff, 1);
      due(-1 - 4, y.text());
    });
    sentence(30, "how many it has. BEYOND: n.", () -> {
      refuses(BEYOND, Edges::lived, (x, v) -> x.feed(0x3b3b3b3b, v), 0, -1, 5, 8, MIN, MAX);
      refuses(BEYOND, NobodySaid::new, (x, v) -> x.feed(-1, v), 0, 5);
      takes(NobodySaid::new, (x, v) -> x.feed(0, v), 1, 2, 3, 4);
      for (int n = 1; n <= 4; n++) due(n, new NobodySaid().feed(MAX, n));
    });
    sentence(30, "BEYOND: n. FULL.", () -> {
      refuses(FULL, Edges::full, (x, v) -> x.feed(0, v), 1, 2, 3, 4);
      refuses(BEYOND, Edges::full, (x, v) -> x.feed(0, v), 0, 5, -1, MIN, MAX);
      // One too many, and none of them is taken; one less, and all are.
      for (int n = 1; n <= 4; n++) {
        NobodySaid x = new NobodySaid();
        for (int i = 0; i < 120 - n + 1; i++) x.feed(';', 1);
        due(FULL, x.feed(-1, n));
        due(120 - n + 1, x.count(5));
        x.wipe();
        for (int i = 0; i < 120 - n; i++) x.feed(';', 1);
        due(120, x.feed(-1, n));
        due(FULL, x.feed(-1, 1));
      }
    });
    sentence(31, "THE TAPE is empty: how many it had.", () -> {
      NobodySaid x = new NobodySaid();
      due(0, x.wipe());
      x.feed(0, 1);
      due(1, x.wipe());
      due(0, x.wipe());
      due(0, x.count(5));
      NobodySaid y = full();
      due(120, y.wipe());
      due(0, y.count(5));
      // There is room again, and what was on it is gone.
      due(4, y.feed('m' << 24 | 'u' << 16 | 't' << 8 | 'e', 4));
      due(-1, y.text());
      due(0, y.status(-1));
      due(1, read(y, "talk 0 1 2"));
    });
  }

  static void tokens() {
    sentence(TERMS, "TOKENS, each as long as can be: WORDS (letters a to z)", () -> {
      fault(0, "mut");
      fault(0, "mutes");
      fault(0, "mutemute");
      fault(0, "mutea");
      fault(0, "mutez");
      fault(0, "amute");
      fault(0, "zmute");
      fault(0, "mutetrust 5");
      fault(0, "mutequiet");
      fault(5, "mute trustquiet");
      fault(5, "mute trusty 5");
      fault(5, "mute quie");
      fault(5, "mute quiets");
      // The bytes next to a and z are no letters, nor are the great ones.
      fault(4, "mute`");
      fault(4, "mute{");
      fault(4, "muteA");
      fault(0, "`mute");
      fault(0, "{mute");
      fault(0, "Mute");
      fault(0, "m@te");
      fault(0, "MUTE");
    });
    sentence(TERMS, "NUMBERS (digits, worth 9999 at most)", () -> {
      items(1, "mute trust 0");
      items(1, "mute trust 9");
      items(1, "mute trust 0000000009");
      items(1, "mute trust " + "0".repeat(108) + "9");
      fault(11, "mute trust 10");
      fault(11, "mute trust 99");
      fault(11, "mute trust 9999");
      fault(11, "mute trust 10000");
      fault(11, "mute trust 65536");
      fault(11, "mute trust 4294967296");
      fault(11, "mute trust 18446744073709551616");
      fault(11, "mute trust 1" + "0".repeat(108));
      fault(11, "mute trust " + "9".repeat(109));
      // The bytes next to 0 and 9 are no digits.
      fault(12, "mute trust 5/");
      fault(12, "mute trust 5:");
      fault(11, "mute trust /5");
      fault(11, "mute trust :5");
      fault(11, "mute trust -5");
      fault(11, "mute trust +5");
      fault(12, "mute trust 5.0");
    });
    sentence(TERMS, "SIGN ; ; blanks (32) may stand between", () -> {
      items(3, "mute;mute;mute");
      items(3, "mute ; mute ; mute");
      items(3, "  mute  ;  mute  ;  mute  ");
      items(1, "mute" + " ".repeat(116));
      items(1, " ".repeat(116) + "mute");
      // None need stand where a token ends by itself.
      items(1, "mute trust5quiet");
      items(2, "saying0 0 0;talk5 7 7");
      items(2, "mute trust5;mute");
      // Of two words or two numbers some must: else they are one.
      fault(0, "mutequiet");
      fault(11, "saying 0 00");
      fault(10, "saying 000");
      // Other blanks begin no token.
      for (char other : new char[] {9, 10, 13, 0, 11, 12, 31, 33, 127, 128, 160, 255}) {
        fault(4, "mute" + other);
        fault(0, other + "mute");
        fault(5, "mute " + other + " quiet");
      }
    });
  }

  static void grammar() {
    sentence(TERMS, "TEXT: ITEM { ; ITEM }.", () -> {
      fault(0, "");
      fault(1, " ");
      fault(120, " ".repeat(120));
      fault(0, ";");
      fault(1, " ;");
      fault(5, "mute;");
      fault(6, "mute; ");
      fault(5, "mute;;");
      fault(5, "mute;;mute");
      fault(0, ";mute");
      fault(5, "mute mute");
      fault(0, ";".repeat(120));
      items(1, "mute");
      // As many as there is room for: 120 bytes.
      items(11, "talk 1 2 3;".repeat(10) + "talk 1 2 3");
      items(12, "talk0 0 0;".repeat(11) + "talk0 0 0");
      fault(120, "talk0 0 0;".repeat(12));
      fault(110, "talk 1 2 3;".repeat(10) + ";         ");
    });
    sentence(TERMS, "person, gossip, clerk, judge, nobody, mute or child, perhaps trust and a NUMBER (0 to 9), then perhaps quiet: a new one", () -> {
      String[] kinds = {"person", "gossip", "clerk", "judge", "nobody", "mute", "child"};
      for (int kind = 0; kind < 7; kind++) {
        NobodySaid x = new NobodySaid();
        due(4, read(x, kinds[kind] + ";" + kinds[kind] + " trust 0;" + kinds[kind] + " trust 9 quiet;" + kinds[kind] + " quiet"));
        int[] trust = {5, 0, 9, 5}, quiet = {0, 0, 1, 1};
        for (int p = 0; p < 4; p++) {
          due(kind, x.of(p, 0));
          due(trust[p], x.of(p, 1));
          due(quiet[p], x.of(p, 2));
          all(0, x.of(p, 3), x.of(p, 4));
        }
        due(4, x.count(1));
      }
      fault(10, "mute trust");
      fault(11, "mute trust ");
      fault(10, "mute trust;mute");
      fault(11, "mute trust quiet");
      fault(11, "mute trust trust 5");
      fault(13, "mute trust 5 trust 5");
      fault(13, "mute trust 5 6");
      fault(5, "mute 5");
      fault(11, "mute quiet trust 5");
      fault(11, "mute quiet quiet");
      fault(11, "mute quiet 5");
      fault(19, "mute trust 5 quiet quiet");
      fault(0, "trust 5");
      fault(0, "quiet");
      fault(0, "5");
    });
    sentence(TERMS, "saying, three NUMBERS (who began it, one who is there already; ABOUT, 0 to 7; WEIGHT, 0 to 9): a new one, HEARD by him", () -> {
      NobodySaid x = town(PERSON, PERSON, PERSON);
      due(2, read(x, "saying 2 7 9;saying 0 0 0"));
      due(7, x.ofSaying(0, 0));
      due(9, x.ofSaying(0, 1));
      due(4, x.ofSaying(0, 2));
      due(-1, x.from(0, 2));
      all(0, x.ofSaying(1, 0), x.ofSaying(1, 1));
      due(1, x.ofSaying(1, 2));
      fault(7, "saying 0 0 0", NobodySaid::new);
      fault(7, "saying 1 0 0");
      fault(7, "saying 3 0 0", () -> town(PERSON, PERSON, PERSON));
      fault(7, "saying 8 0 0", () -> town(0, 0, 0, 0, 0, 0, 0, 0));
      due(1, read(town(0, 0, 0, 0, 0, 0, 0, 0), "saying 7 0 0"));
      fault(9, "saying 0 8 0");
      fault(11, "saying 0 0 10");
      // One of this very text is there already, behind his own item.
      NobodySaid y = new NobodySaid();
      due(2, read(y, "mute;saying 0 7 9"));
      due(1, y.ofSaying(0, 2));
      fault(7, "saying 1 0 0;mute");
      fault(12, "mute;saying 2 0 0");
      items(2, "mute;saying 1 0 0");
      fault(6, "saying");
      fault(7, "saying ");
      fault(8, "saying 0");
      fault(10, "saying 0 0");
      fault(11, "saying 0 0 ");
      fault(10, "saying 0 0;mute");
      fault(6, "saying;");
      fault(7, "saying mute");
      fault(9, "saying 0 mute");
      fault(13, "saying 0 0 0 0");
      fault(13, "saying 0 0 0 quiet");
    });
    sentence(TERMS, "talk, three NUMBERS (a place of THE LIST, 0 to 5, A, B, 0 to 7 each)", () -> {
      NobodySaid x = new NobodySaid();
      due(2, read(x, "talk 0 7 7;talk 5 0 0"));
      due(77, x.listed(0));
      due(0, x.listed(5));
      for (int i = 1; i < 5; i++) due(1, x.listed(i));
      // The later one counts.
      due(2, read(x, "talk 3 1 2;talk 3 6 5"));
      due(65, x.listed(3));
      fault(5, "talk 6 0 0");
      fault(5, "talk 9 0 0");
      fault(7, "talk 0 8 0");
      fault(9, "talk 0 0 8");
      fault(4, "talk");
      fault(6, "talk 0");
      fault(8, "talk 0 0");
      fault(8, "talk 0 0;mute");
      fault(5, "talk quiet");
      fault(11, "talk 0 0 0 0");
      fault(7, "talk 0 ;");
    });
    sentence(TERMS, "FAULT: the place (from 0) of the first byte of the first TOKEN that can't stand there", () -> {
      // Of several the first; not its last byte, nor that of a blank ahead of it.
      fault(0, "xyz;xyz");
      fault(3, "   xyz");
      fault(5, "mute;xyz;mute trust 10");
      fault(16, "mute trust 9;   xyz");
      fault(119, "talk0 0 0;".repeat(11) + "mute    ;?");
      fault(119, "talk0 0 0;".repeat(11) + "mute     a");
    });
    sentence(TERMS, "(a NUMBER that isn't as told, another WORD, a byte that begins no TOKEN, the WORD of a 9th one, of a 7th SAYING: its own)", () -> {
      fault(11, "mute trust 10");
      fault(0, "baker");
      fault(5, "mute baker");
      fault(5, "mute ?");
      // The 8th still comes, the 9th doesn't, whatever stands behind his word.
      NobodySaid eight = new NobodySaid();
      due(8, read(eight, "mute;".repeat(7) + "mute"));
      due(8, eight.count(1));
      fault(40, "mute;".repeat(8) + "mute", NobodySaid::new);
      fault(40, "mute;".repeat(8) + "mute trust 10", NobodySaid::new);
      fault(40, "mute;".repeat(8) + "xyz", NobodySaid::new);
      fault(40, "mute;".repeat(8), NobodySaid::new);
      fault(0, "mute", Edges::full);
      fault(11, "talk 0 1 2;mute", Edges::full);
      for (String kind : new String[] {"person", "gossip", "clerk", "judge", "nobody", "mute", "child"}) fault(0, kind, Edges::full);
      // So it is with the 6th and the 7th SAYING.
      String said = "saying 0 0 0;";
      NobodySaid six = town(PERSON);
      due(6, read(six, said.repeat(5) + "saying 0 0 0"));
      due(6, six.count(2));
      fault(78, said.repeat(6) + "saying 0 0 0");
      fault(78, said.repeat(6) + "saying 9");
      fault(78, said.repeat(6) + "saying");
      fault(0, "saying 0 0 0", Edges::full);
      fault(0, "saying", Edges::full);
      // A full town may still hear of talks.
      due(1, read(full(), "talk 0 1 2"));
    });
    sentence(TERMS, "or how many bytes there are if it ends too early", () -> {
      String text = "mute trust 5 quiet;saying 0 7 9;talk 5 6 7";
      // At each length it is either a TEXT or ends too early, or its last word is cut.
      int[] ends = {4, 5, 12, 13, 18, 31, 42};
      for (int end : ends) {
        NobodySaid x = new NobodySaid();
        due(end < 19 ? 1 : end < 32 ? 2 : 3, read(x, text.substring(0, end)));
      }
      for (int end : new int[] {0, 10, 11, 19, 25, 26, 27, 28, 29, 30, 32, 36, 37, 38, 39, 40, 41}) {
        fault(end, text.substring(0, end), NobodySaid::new);
      }
      for (int end : new int[] {1, 2, 3}) fault(0, text.substring(0, end), NobodySaid::new);
      for (int end : new int[] {6, 7, 8, 9}) fault(5, text.substring(0, end), NobodySaid::new);
      for (int end : new int[] {14, 15, 16, 17}) fault(13, text.substring(0, end), NobodySaid::new);
      for (int end : new int[] {20, 22, 24}) fault(19, text.substring(0, end), NobodySaid::new);
      for (int end : new int[] {33, 34, 35}) fault(32, text.substring(0, end), NobodySaid::new);
    });
  }

  static void text() {
    sentence(32, "THE TAPE is a TEXT, and empty then; all that it tells is so, item by item: how many ITEMS.", () -> {
      NobodySaid x = new NobodySaid();
      due(5, read(x, "person;saying 0 7 3;gossip trust 9;talk 0 1 0;saying 1 0 9"));
      due(0, x.count(5));
      due(-1, x.text());
      due(2, x.count(1));
      due(2, x.count(2));
      due(10, x.listed(0));
      // What is there stays: these come behind it.
      due(2, read(x, "mute;saying 2 2 2"));
      due(3, x.count(1));
      due(4, x.ofSaying(2, 2));
      due(0, x.status(-1));
      // DAY, FUND, z, SPOTS, sheets and what is kept have no part in it.
      NobodySaid one = lived(), other = lived();
      due(2, one.text());
      other.wipe();
      other.list(5, 6, 7);
      other.person(MUTE, 2);
      same(print(other), print(one));
    });
    sentence(32, "With a FAULT: -1 less the FAULT (nothing changes but that THE TAPE is empty; no finding).", () -> {
      due(-1, read(lived(), ""));
      due(-121, read(lived(), " ".repeat(120)));
      // All that stands ahead of the FAULT would be so, and isn't.
      fault(47, "mute quiet;saying 0 7 9;talk 5 6 7;child trust 10", Edges::lived);
      fault(8, "mute;   ", Edges::lived);
      fault(11, "talk 0 1 2;mute", Edges::full);
      fault(22, "talk 0 1 2;talk 1 2 3;saying 0 0 0", Edges::full);
      for (int place = 0; place < 120; place++) {
        NobodySaid x = town(PERSON);
        due(-1 - place, read(x, " ".repeat(place) + "?" + " ".repeat(119 - place)));
        due(0, x.status(-1));
      }
    });
  }

  public static void main(String[] args) {
    tape();
    tokens();
    grammar();
    text();
    end();
  }
}
