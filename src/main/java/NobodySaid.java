import java.util.Arrays;

/** A town where what is put about without a speaker is Mr Nobody's to answer for. */
public final class NobodySaid {
    private static final int LOW = -1000001;
    private static final int BEYOND = 0;
    private static final int FULL = 1;
    private static final int KIND = 2;
    private static final int NONE = 3;
    private static final int STATE = 4;
    private static final int MISSING = 5;
    private static final int SIZE = 6;
    private static final int FINDINGS = 7;

    private static final int PERSON = 0;
    private static final int GOSSIP = 1;
    private static final int CLERK = 2;
    private static final int JUDGE = 3;
    private static final int NOBODY = 4;
    private static final int MUTE = 5;
    private static final int CHILD = 6;
    private static final int KINDS = 7;

    private static final int PEOPLE_LIMIT = 8;
    private static final int SAYINGS_LIMIT = 6;
    private static final int PLACES = 6;
    private static final int SPOTS = 10;
    private static final int SHEETS = 4;
    private static final int SHEET_LIMIT = 40;
    private static final int TAPE_LIMIT = 120;
    private static final int NUMBER_LIMIT = 9999;
    private static final int TRUST_LIMIT = 9;
    private static final int WEIGHT_LIMIT = 9;
    private static final int BLAMED_LIMIT = 9999;
    private static final int FUND_LIMIT = 99999;
    private static final int DAY_LIMIT = 99999;
    private static final int GO_LIMIT = 60;
    private static final int AHEAD_LIMIT = 100;
    private static final int SEARCH_LIMIT = 200;
    private static final int PLAN_LIMIT = 60;
    private static final int HUSH_LIMIT = 20;
    private static final int EVENING_LIMIT = 20;
    private static final int ODDS_LIMIT = 18;

    private static final int USUAL_TRUST = 5;
    private static final int HEAVY = 5;
    private static final int BEGAN = -1;
    private static final int UNNAMED = 8;
    private static final int NOTHING = -1;
    private static final int ANY = -1;

    private static final int END = 0;
    private static final int WORD = 1;
    private static final int NUMBER = 2;
    private static final int SIGN = 3;
    private static final int WRONG = 4;
    /** The words by their numbers; those of people come first, at the number of their kind. */
    private static final String WORDS = "person gossip clerk judge nobody mute child saying talk trust quiet ";
    private static final int SAYING_WORD = 7;
    private static final int TALK_WORD = 8;
    private static final int TRUST_WORD = 9;
    private static final int QUIET_WORD = 10;

    private final Town town;
    /** What would be is played here, so that the town itself doesn't change. */
    private final Town guess;
    private final Town kept;
    private boolean keeps;
    private final Reader reader;
    private final Sheet[] sheets;
    private final int[] found;

    public NobodySaid() {
        town = new Town();
        guess = new Town();
        kept = new Town();
        keeps = false;
        reader = new Reader();
        sheets = new Sheet[SHEETS];
        for (int s = 0; s < SHEETS; s++) {
            sheets[s] = new Sheet();
        }
        found = new int[FINDINGS];
    }

    // ---- town

    public int list(int i, int a, int b) {
        if (!within(i, PLACES - 1) || !within(a, PEOPLE_LIMIT - 1) || !within(b, PEOPLE_LIMIT - 1)) {
            return finding(BEYOND);
        }
        int was = town.list[i];
        town.list[i] = 10 * a + b;
        return was;
    }

    public int listed(int i) {
        return within(i, PLACES - 1) ? town.list[i] : finding(BEYOND);
    }

    public int person(int kind, int trust) {
        if (!within(kind, KINDS - 1) || !within(trust, TRUST_LIMIT)) {
            return finding(BEYOND);
        }
        if (town.people >= PEOPLE_LIMIT) {
            return finding(FULL);
        }
        return town.settle(kind, trust, 0);
    }

    public int saying(int by, int about, int weight) {
        if (!town.isPerson(by) || !within(about, PEOPLE_LIMIT - 1) || !within(weight, WEIGHT_LIMIT)) {
            return finding(BEYOND);
        }
        if (town.sayings >= SAYINGS_LIMIT) {
            return finding(FULL);
        }
        return town.putAbout(by, about, weight);
    }

    public int of(int person, int what) {
        if (!town.isPerson(person)) {
            return finding(BEYOND);
        }
        switch (what) {
            case 0: return town.kind[person];
            case 1: return town.trust[person];
            case 2: return town.quiet[person];
            case 3: return town.blamed[person];
            case 4: return town.heardBy(person);
            default: return finding(BEYOND);
        }
    }

    public int change(int person, int what, int v) {
        if (!town.isPerson(person)) {
            return finding(BEYOND);
        }
        switch (what) {
            case 0: return exchange(town.kind, person, v, KINDS - 1);
            case 1: return exchange(town.trust, person, v, TRUST_LIMIT);
            case 2: return exchange(town.quiet, person, v, 1);
            case 3: return exchange(town.blamed, person, v, BLAMED_LIMIT);
            default: return finding(BEYOND);
        }
    }

    public int ofSaying(int saying, int what) {
        if (!town.isSaying(saying)) {
            return finding(BEYOND);
        }
        switch (what) {
            case 0: return town.about[saying];
            case 1: return town.weight[saying];
            case 2: return town.heard[saying];
            default: return finding(BEYOND);
        }
    }

    public int alter(int saying, int what, int v) {
        if (!town.isSaying(saying)) {
            return finding(BEYOND);
        }
        switch (what) {
            case 0: return exchange(town.about, saying, v, PEOPLE_LIMIT - 1);
            case 1: return exchange(town.weight, saying, v, WEIGHT_LIMIT);
            default: return finding(BEYOND);
        }
    }

    public int from(int saying, int person) {
        if (!town.isSaying(saying) || !town.isPerson(person)) {
            return finding(BEYOND);
        }
        return town.hasHeard(saying, person) ? town.source(saying, person) : finding(NONE);
    }

    public int traced(int saying, int person) {
        if (!town.isSaying(saying) || !town.isPerson(person)) {
            return finding(BEYOND);
        }
        return town.hasHeard(saying, person) ? town.trace(saying, person) : finding(NONE);
    }

    public int talk(int a, int b) {
        if (!town.isPerson(a) || !town.isPerson(b) || a == b) {
            return finding(BEYOND);
        }
        if (town.quiet[a] != 0 || town.quiet[b] != 0) {
            return finding(STATE);
        }
        return town.passOn(a, b);
    }

    // ---- days

    public int go(int n) {
        if (n < 1 || n > GO_LIMIT) {
            return finding(BEYOND);
        }
        if (town.day + n > DAY_LIMIT) {
            return finding(STATE);
        }
        town.passDays(n);
        return town.fund;
    }

    public int now(int what) {
        switch (what) {
            case 0: return town.day;
            case 1: return town.fund;
            case 2: return town.hearings();
            case 3: return town.knownToAll();
            case 4: return town.blames();
            case 5: return town.mostBlamed();
            case 6: return town.innocent();
            case 7: return town.untraceable();
            default: return finding(BEYOND);
        }
    }

    // ---- what will be (nothing changes)

    public int ahead(int person, int what, int n) {
        if (!town.isPerson(person) || (what != 3 && what != 4) || !within(n, AHEAD_LIMIT)) {
            return finding(BEYOND);
        }
        guess.become(town);
        guess.passDays(n);
        return what == 3 ? guess.blamed[person] : guess.heardBy(person);
    }

    public int spread(int saying, int n) {
        if (!town.isSaying(saying) || !within(n, AHEAD_LIMIT)) {
            return finding(BEYOND);
        }
        guess.become(town);
        guess.passDays(n);
        return guess.heard[saying];
    }

    public int when(int saying, int person) {
        if (!town.isSaying(saying) || !town.isPerson(person)) {
            return finding(BEYOND);
        }
        guess.become(town);
        for (int days = 0; days <= SEARCH_LIMIT; days++) {
            if (guess.hasHeard(saying, person)) {
                return days;
            }
            guess.passDay();
        }
        return finding(NONE);
    }

    public int blamed(int person, int v) {
        if (!town.isPerson(person) || !within(v, BLAMED_LIMIT)) {
            return finding(BEYOND);
        }
        guess.become(town);
        for (int days = 0; days <= SEARCH_LIMIT; days++) {
            if (guess.blamed[person] >= v) {
                return days;
            }
            guess.passDay();
        }
        return finding(NONE);
    }

    public int fund(int v) {
        if (!within(v, FUND_LIMIT)) {
            return finding(BEYOND);
        }
        guess.become(town);
        for (int days = 0; days <= SEARCH_LIMIT; days++) {
            if (guess.fund >= v) {
                return days;
            }
            guess.passDay();
        }
        return finding(NONE);
    }

    // ---- whom to tell

    public int beginner(int saying, int n) {
        if (!town.isSaying(saying) || !within(n, PLAN_LIMIT)) {
            return finding(BEYOND);
        }
        int best = NOTHING;
        int most = -1;
        for (int p = 0; p < town.people; p++) {
            guess.become(town);
            guess.begin(saying, p);
            guess.passDays(n);
            int hearers = Integer.bitCount(guess.heard[saying]);
            if (hearers > most) {
                most = hearers;
                best = p;
            }
        }
        return best == NOTHING ? finding(NONE) : best;
    }

    public int kindFor(int person, int n) {
        if (!town.isPerson(person) || !within(n, PLAN_LIMIT)) {
            return finding(BEYOND);
        }
        int best = PERSON;
        int least = BLAMED_LIMIT + 1;
        for (int kind = 0; kind < KINDS; kind++) {
            guess.become(town);
            guess.kind[person] = kind;
            guess.passDays(n);
            if (guess.blamed[person] < least) {
                least = guess.blamed[person];
                best = kind;
            }
        }
        return best;
    }

    public int trustFor(int saying, int person, int n) {
        if (!town.isSaying(saying) || !town.isPerson(person) || !within(n, PLAN_LIMIT)) {
            return finding(BEYOND);
        }
        for (int trust = 0; trust <= TRUST_LIMIT; trust++) {
            guess.become(town);
            guess.trust[person] = trust;
            guess.passDays(n);
            if (guess.hasHeard(saying, person)) {
                return trust;
            }
        }
        return finding(NONE);
    }

    public int weightFor(int saying, int n) {
        if (!town.isSaying(saying) || !within(n, PLAN_LIMIT)) {
            return finding(BEYOND);
        }
        for (int weight = WEIGHT_LIMIT; weight >= 0; weight--) {
            guess.become(town);
            guess.weight[saying] = weight;
            guess.passDays(n);
            if (guess.heard[saying] == guess.everybody()) {
                return weight;
            }
        }
        return finding(NONE);
    }

    public int hush(int saying, int person, int n) {
        if (!town.isSaying(saying) || !town.isPerson(person) || !within(n, HUSH_LIMIT)) {
            return finding(BEYOND);
        }
        // What one HEARD he never forgets: no set can help then.
        if (town.hasHeard(saying, person)) {
            return finding(NONE);
        }
        for (int size = 0; size <= town.people; size++) {
            for (int set = 0; set <= town.everybody(); set++) {
                if (Integer.bitCount(set) == size && keepsFrom(set, saying, person, n)) {
                    return set;
                }
            }
        }
        return finding(NONE);
    }

    private boolean keepsFrom(int set, int saying, int person, int n) {
        guess.become(town);
        guess.silence(set);
        guess.passDays(n);
        return !guess.hasHeard(saying, person);
    }

    // ---- told hearers

    public int fits(int s, int saying) {
        if (!within(s, SHEETS - 1)) {
            return finding(BEYOND);
        }
        if (sheets[s].bits == 0) {
            return finding(MISSING);
        }
        if (!town.isSaying(saying)) {
            return finding(BEYOND);
        }
        int fitting = 0;
        for (int a = 0; a < PEOPLE_LIMIT; a++) {
            for (int b = 0; b < PEOPLE_LIMIT; b++) {
                guess.become(town);
                guess.listToday(a, b);
                if (hearersAreAsTold(sheets[s], saying)) {
                    fitting++;
                }
            }
        }
        return fitting;
    }

    private boolean hearersAreAsTold(Sheet sheet, int saying) {
        for (int i = 0; i < sheet.size; i++) {
            if (i > 0) {
                guess.passDay();
            }
            if (!sheet.allows(i, guess.heard[saying])) {
                return false;
            }
        }
        return true;
    }

    public int kinds(int s, int person) {
        if (!within(s, SHEETS - 1)) {
            return finding(BEYOND);
        }
        if (sheets[s].bits == 0) {
            return finding(MISSING);
        }
        if (!town.isPerson(person)) {
            return finding(BEYOND);
        }
        int set = 0;
        for (int kind = 0; kind < KINDS; kind++) {
            guess.become(town);
            guess.kind[person] = kind;
            if (sayingsAreAsTold(sheets[s], person)) {
                set |= 1 << kind;
            }
        }
        return set;
    }

    private boolean sayingsAreAsTold(Sheet sheet, int person) {
        for (int i = 0; i < sheet.size; i++) {
            if (i > 0) {
                guess.passDay();
            }
            if (!sheet.allows(i, guess.heardBy(person))) {
                return false;
            }
        }
        return true;
    }

    // ---- evenings

    public int evening(int n) {
        if (n < 1 || n > EVENING_LIMIT) {
            return finding(BEYOND);
        }
        if (town.day + n > DAY_LIMIT) {
            return finding(STATE);
        }
        for (int i = 0; i < n; i++) {
            int a = town.draw() % PEOPLE_LIMIT;
            int b = town.draw() % PEOPLE_LIMIT;
            town.listToday(a, b);
            town.passDay();
        }
        return town.fund;
    }

    public long odds(int saying, int person, int n, int what) {
        if (!town.isSaying(saying) || !town.isPerson(person) || !within(n, ODDS_LIMIT) || !within(what, 1)) {
            return finding(BEYOND);
        }
        int believed = 0;
        for (int weight = 0; weight <= WEIGHT_LIMIT; weight++) {
            if (town.wouldBelieve(person, town.about[saying], weight)) {
                believed++;
            }
        }
        // A power of a fraction in lowest terms is in lowest terms.
        return power(inLowestTerms(believed, WEIGHT_LIMIT + 1, what), n);
    }

    /** What stands above (what 0) or below the line (1). */
    private static int inLowestTerms(int above, int below, int what) {
        int wanted = what == 0 ? above : below;
        for (int d = below; d > 1; d--) {
            if (above % d == 0 && below % d == 0) {
                return wanted / d;
            }
        }
        return wanted;
    }

    private static long power(int base, int n) {
        long result = 1;
        for (int i = 0; i < n; i++) {
            result *= base;
        }
        return result;
    }

    public int seed(int v) {
        int was = town.z;
        town.z = v;
        return was;
    }

    // ---- texts

    public int feed(int bytes, int n) {
        if (n < 1 || n > 4) {
            return finding(BEYOND);
        }
        if (reader.tape.size + n > TAPE_LIMIT) {
            return finding(FULL);
        }
        for (int i = n - 1; i >= 0; i--) {
            reader.tape.append(bytes >>> (8 * i) & 255);
        }
        return reader.tape.size;
    }

    public int wipe() {
        int had = reader.tape.size;
        reader.tape.size = 0;
        return had;
    }

    public int text() {
        reader.town.become(town);
        int answer = reader.readTape();
        reader.tape.size = 0;
        if (answer >= 0) {
            town.become(reader.town);
        }
        return answer;
    }

    // ---- spots, sheets

    public int hold(int spot, int person) {
        if (!within(spot, SPOTS - 1) || (person != NOTHING && !town.isPerson(person))) {
            return finding(BEYOND);
        }
        town.spots[spot] = person;
        return 1;
    }

    public int as(int spot, int kind) {
        if (!within(spot, SPOTS - 1) || !within(kind, KINDS - 1)) {
            return finding(BEYOND);
        }
        int person = town.spots[spot];
        if (!town.isPerson(person)) {
            return finding(MISSING);
        }
        return isUnder(town.kind[person], kind) ? person : finding(KIND);
    }

    private static boolean isUnder(int kind, int upper) {
        int at = kind;
        for (int step = 0; step < KINDS && at != upper; step++) {
            at = kindAbove(at);
        }
        return at == upper;
    }

    private static int kindAbove(int kind) {
        switch (kind) {
            case GOSSIP:
            case CLERK:
            case MUTE: return PERSON;
            case JUDGE: return CLERK;
            case NOBODY: return JUDGE;
            case CHILD: return GOSSIP;
            default: return NOTHING;
        }
    }

    public int sheet(int s, int bits, int n) {
        if (!within(s, SHEETS - 1) || (bits != 0 && bits != 8 && bits != 16 && bits != 32)) {
            return finding(BEYOND);
        }
        if (n < 0) {
            return finding(SIZE);
        }
        if (n > SHEET_LIMIT) {
            return finding(BEYOND);
        }
        sheets[s].renew(bits, bits == 0 ? 0 : n);
        return sheets[s].size;
    }

    public int write(int s, int i, int v) {
        if (!within(s, SHEETS - 1)) {
            return finding(BEYOND);
        }
        if (sheets[s].bits == 0) {
            return finding(MISSING);
        }
        if (!within(i, sheets[s].size - 1)) {
            return finding(BEYOND);
        }
        sheets[s].put(i, v);
        return 1;
    }

    public int copy(int s, int from, int t, int to, int n) {
        if (!within(s, SHEETS - 1) || !within(t, SHEETS - 1)) {
            return finding(BEYOND);
        }
        if (sheets[s].bits == 0 || sheets[t].bits == 0) {
            return finding(MISSING);
        }
        if (sheets[s].bits != sheets[t].bits) {
            return finding(KIND);
        }
        if (!sheets[s].has(from, n) || !sheets[t].has(to, n)) {
            return finding(BEYOND);
        }
        System.arraycopy(sheets[s].numbers, from, sheets[t].numbers, to, n);
        return n;
    }

    public int load(int s) {
        if (!within(s, SHEETS - 1)) {
            return finding(BEYOND);
        }
        if (sheets[s].bits == 0) {
            return finding(MISSING);
        }
        int most = Math.min(sheets[s].size, town.people);
        int came = 0;
        while (came < most && within(sheets[s].numbers[came], TRUST_LIMIT)) {
            town.trust[came] = sheets[s].numbers[came];
            came++;
        }
        return came;
    }

    public int judge(int s) {
        if (!within(s, SHEETS - 1)) {
            return finding(BEYOND);
        }
        if (sheets[s].bits == 0) {
            return finding(MISSING);
        }
        for (int i = 0; i < sheets[s].size; i++) {
            if (!town.isSaying(i) || sheets[s].numbers[i] != town.heard[i]) {
                return 1 + i;
            }
        }
        return 0;
    }

    // ---- images

    public int image() {
        kept.become(town);
        keeps = true;
        return 1;
    }

    public int undo() {
        if (!keeps) {
            return finding(NONE);
        }
        town.become(kept);
        return town.day;
    }

    public int tear() {
        int had = keeps ? 1 : 0;
        keeps = false;
        return had;
    }

    public int count(int what) {
        switch (what) {
            case 0: return town.day;
            case 1: return town.people;
            case 2: return town.sayings;
            case 3: return town.fund;
            case 4: return town.blames();
            case 5: return reader.tape.size;
            case 6: return town.z;
            case 7: return town.spotsHeld();
            default: return finding(BEYOND);
        }
    }

    public int status(int which) {
        if (which == -1) {
            int all = 0;
            for (int i = 0; i < FINDINGS; i++) {
                all += found[i];
            }
            return all;
        }
        return within(which, FINDINGS - 1) ? found[which] : finding(BEYOND);
    }

    private int finding(int which) {
        found[which]++;
        return LOW - which;
    }

    private static boolean within(int v, int most) {
        return v >= 0 && v <= most;
    }

    /** Puts v, if it is 0 to most, into a place of a row that is there: what it was. */
    private int exchange(int[] row, int place, int v, int most) {
        if (!within(v, most)) {
            return finding(BEYOND);
        }
        int was = row[place];
        row[place] = v;
        return was;
    }

    /** All that an image keeps. */
    private static final class Town {
        final int[] list;
        final int[] kind;
        final int[] trust;
        final int[] quiet;
        final int[] blamed;
        final int[] about;
        final int[] weight;
        final int[] heard;
        /** FROM whom, at 8 times the saying and the person. */
        final int[] sources;
        final int[] spots;
        int people;
        int sayings;
        int fund;
        int day;
        int z;

        Town() {
            list = new int[PLACES];
            Arrays.fill(list, 1);
            kind = new int[PEOPLE_LIMIT];
            trust = new int[PEOPLE_LIMIT];
            quiet = new int[PEOPLE_LIMIT];
            blamed = new int[PEOPLE_LIMIT];
            about = new int[SAYINGS_LIMIT];
            weight = new int[SAYINGS_LIMIT];
            heard = new int[SAYINGS_LIMIT];
            sources = new int[SAYINGS_LIMIT * PEOPLE_LIMIT];
            spots = new int[SPOTS];
            Arrays.fill(spots, NOTHING);
            people = 0;
            sayings = 0;
            fund = 0;
            day = 0;
            z = 1;
        }

        void become(Town other) {
            System.arraycopy(other.list, 0, list, 0, PLACES);
            System.arraycopy(other.kind, 0, kind, 0, PEOPLE_LIMIT);
            System.arraycopy(other.trust, 0, trust, 0, PEOPLE_LIMIT);
            System.arraycopy(other.quiet, 0, quiet, 0, PEOPLE_LIMIT);
            System.arraycopy(other.blamed, 0, blamed, 0, PEOPLE_LIMIT);
            System.arraycopy(other.about, 0, about, 0, SAYINGS_LIMIT);
            System.arraycopy(other.weight, 0, weight, 0, SAYINGS_LIMIT);
            System.arraycopy(other.heard, 0, heard, 0, SAYINGS_LIMIT);
            System.arraycopy(other.sources, 0, sources, 0, SAYINGS_LIMIT * PEOPLE_LIMIT);
            System.arraycopy(other.spots, 0, spots, 0, SPOTS);
            people = other.people;
            sayings = other.sayings;
            fund = other.fund;
            day = other.day;
            z = other.z;
        }

        boolean isPerson(int p) {
            return p >= 0 && p < people;
        }

        boolean isSaying(int s) {
            return s >= 0 && s < sayings;
        }

        /** Asked only while there is room for one more. */
        int settle(int newKind, int newTrust, int newQuiet) {
            int p = people;
            kind[p] = newKind;
            trust[p] = newTrust;
            quiet[p] = newQuiet;
            blamed[p] = 0;
            people++;
            return p;
        }

        /** Asked only while there is room for one more. */
        int putAbout(int by, int newAbout, int newWeight) {
            int s = sayings;
            about[s] = newAbout;
            weight[s] = newWeight;
            begin(s, by);
            sayings++;
            return s;
        }

        void begin(int s, int p) {
            heard[s] = 1 << p;
            sources[PEOPLE_LIMIT * s + p] = BEGAN;
        }

        boolean hasHeard(int s, int p) {
            return (heard[s] >> p & 1) != 0;
        }

        int source(int s, int p) {
            return sources[PEOPLE_LIMIT * s + p];
        }

        int everybody() {
            return (1 << people) - 1;
        }

        void silence(int set) {
            for (int p = 0; p < people; p++) {
                if ((set >> p & 1) != 0) {
                    quiet[p] = 1;
                }
            }
        }

        void listToday(int a, int b) {
            list[day % PLACES] = 10 * a + b;
        }

        boolean wouldTell(int s, int a, int b) {
            switch (kind[a]) {
                case PERSON: return about[s] != a;
                case GOSSIP: return true;
                case CHILD: return about[s] != b;
                case CLERK: return weight[s] >= HEAVY;
                case JUDGE: return weight[s] >= HEAVY && about[s] != b;
                case NOBODY: return about[s] == a;
                default: return false;
            }
        }

        boolean wouldBelieve(int b, int aboutWhom, int ofWeight) {
            boolean trusts = ofWeight <= trust[b];
            switch (kind[b]) {
                case GOSSIP:
                case NOBODY: return true;
                case CHILD: return ofWeight % 2 == 1 || trusts;
                case CLERK: return trusts && aboutWhom != b;
                case JUDGE: return trusts && aboutWhom != b && day % 2 == 0;
                default: return trusts;
            }
        }

        int whomNames(int b, int a) {
            switch (kind[b]) {
                case GOSSIP:
                case NOBODY:
                case MUTE: return UNNAMED;
                default: return a;
            }
        }

        int payment(int p, int ofWeight) {
            switch (kind[p]) {
                case GOSSIP: return 2 * ofWeight;
                case CHILD: return 0;
                case CLERK: return ofWeight + 2;
                case JUDGE: return ofWeight + 7;
                case NOBODY: return 1;
                default: return ofWeight;
            }
        }

        /** A TALK of two who are there and aren't the same: the SAYINGS that came over. */
        int passOn(int a, int b) {
            int came = 0;
            if (quiet[a] != 0 || quiet[b] != 0) {
                return came;
            }
            for (int s = 0; s < sayings; s++) {
                if (hasHeard(s, a) && !hasHeard(s, b)
                        && wouldTell(s, a, b) && wouldBelieve(b, about[s], weight[s])) {
                    heard[s] |= 1 << b;
                    sources[PEOPLE_LIMIT * s + b] = whomNames(b, a);
                    came |= 1 << s;
                }
            }
            return came;
        }

        int trace(int s, int p) {
            int met = 0;
            int at = p;
            for (int step = 0; step < PEOPLE_LIMIT; step++) {
                if (!isPerson(at) || !hasHeard(s, at) || (met >> at & 1) != 0) {
                    return UNNAMED;
                }
                if (source(s, at) == BEGAN) {
                    return at;
                }
                met |= 1 << at;
                at = source(s, at);
            }
            return UNNAMED;
        }

        void passDays(int n) {
            for (int i = 0; i < n; i++) {
                passDay();
            }
        }

        void passDay() {
            int place = day % PLACES;
            int a = list[place] / 10;
            int b = list[place] % 10;
            if (isPerson(a) && isPerson(b) && a != b) {
                passOn(a, b);
            }
            if (place == PLACES - 1) {
                holdTrial(day / PLACES % PLACES);
            }
            day = Math.min(day + 1, DAY_LIMIT);
        }

        void holdTrial(int s) {
            if (!isSaying(s) || heard[s] == 0) {
                return;
            }
            int guilty = trace(s, lastHearer(s));
            if (guilty == UNNAMED) {
                guilty = mrNobody();
            }
            if (!isPerson(guilty)) {
                return;
            }
            blamed[guilty] = Math.min(blamed[guilty] + 1, BLAMED_LIMIT);
            fund = Math.min(fund + payment(guilty, weight[s]), FUND_LIMIT);
        }

        int lastHearer(int s) {
            for (int p = people - 1; p >= 0; p--) {
                if (hasHeard(s, p)) {
                    return p;
                }
            }
            return NOTHING;
        }

        int mrNobody() {
            for (int p = 0; p < people; p++) {
                if (kind[p] == NOBODY) {
                    return p;
                }
            }
            return NOTHING;
        }

        int heardBy(int p) {
            int set = 0;
            for (int s = 0; s < sayings; s++) {
                if (hasHeard(s, p)) {
                    set |= 1 << s;
                }
            }
            return set;
        }

        int hearings() {
            int sum = 0;
            for (int s = 0; s < sayings; s++) {
                sum += Integer.bitCount(heard[s]);
            }
            return sum;
        }

        int knownToAll() {
            int set = 0;
            for (int s = 0; s < sayings; s++) {
                if (heard[s] == everybody()) {
                    set |= 1 << s;
                }
            }
            return set;
        }

        int blames() {
            int sum = 0;
            for (int p = 0; p < people; p++) {
                sum += blamed[p];
            }
            return sum;
        }

        int mostBlamed() {
            int best = NOTHING;
            int most = -1;
            for (int p = 0; p < people; p++) {
                if (blamed[p] > most) {
                    most = blamed[p];
                    best = p;
                }
            }
            return best;
        }

        int innocent() {
            int set = 0;
            for (int p = 0; p < people; p++) {
                if (heardBy(p) == 0) {
                    set |= 1 << p;
                }
            }
            return set;
        }

        int untraceable() {
            int set = 0;
            for (int s = 0; s < sayings; s++) {
                if (heard[s] != 0 && trace(s, lastHearer(s)) == UNNAMED) {
                    set |= 1 << s;
                }
            }
            return set;
        }

        int draw() {
            z = z * 1103515245 + 12345;
            return z >>> 8;
        }

        int spotsHeld() {
            int sum = 0;
            for (int i = 0; i < SPOTS; i++) {
                if (spots[i] != NOTHING) {
                    sum++;
                }
            }
            return sum;
        }
    }

    /** A row of numbers; it is MISSING while it has 0 bits. */
    private static final class Sheet {
        final int[] numbers;
        int bits;
        int size;

        Sheet() {
            numbers = new int[SHEET_LIMIT];
            bits = 0;
            size = 0;
        }

        void renew(int newBits, int newSize) {
            bits = newBits;
            size = newSize;
            Arrays.fill(numbers, 0);
        }

        void put(int i, int v) {
            if (bits == 8) {
                numbers[i] = (byte) v;
            } else if (bits == 16) {
                numbers[i] = (short) v;
            } else {
                numbers[i] = v;
            }
        }

        boolean has(int begin, int n) {
            return n >= 0 && begin >= 0 && begin <= size && n <= size - begin;
        }

        boolean allows(int i, int set) {
            return numbers[i] == ANY || numbers[i] == set;
        }
    }

    /** THE TAPE, and the TOKENS on it, the last of which is END. */
    private static final class Tape {
        final int[] bytes;
        int size;
        final int[] tokens;
        final int[] starts;
        /** The worth of a NUMBER, or the number of a WORD (below 0: another one). */
        final int[] values;

        Tape() {
            bytes = new int[TAPE_LIMIT];
            size = 0;
            tokens = new int[TAPE_LIMIT + 1];
            starts = new int[TAPE_LIMIT + 1];
            values = new int[TAPE_LIMIT + 1];
        }

        /** Asked only while there is room for one more. */
        void append(int b) {
            bytes[size] = b;
            size++;
        }

        /** Cuts the bytes into TOKENS; each but END has a byte, so there is room for all. */
        void cut() {
            int tokenCount = 0;
            for (int i = 0; i < size; i++) {
                if (bytes[i] != ' ' && !goesOn(i)) {
                    keepToken(tokenCount, i, tokenEnd(i));
                    tokenCount++;
                }
            }
            tokens[tokenCount] = END;
            starts[tokenCount] = size;
            values[tokenCount] = 0;
        }

        /** Whether a byte belongs to the TOKEN of the byte ahead of it. */
        private boolean goesOn(int i) {
            return i > 0 && (isLetter(bytes[i - 1]) && isLetter(bytes[i])
                    || isDigit(bytes[i - 1]) && isDigit(bytes[i]));
        }

        private int tokenEnd(int start) {
            int end = start + 1;
            while (end < size && goesOn(end)) {
                end++;
            }
            return end;
        }

        private void keepToken(int i, int start, int end) {
            starts[i] = start;
            values[i] = 0;
            if (isLetter(bytes[start])) {
                tokens[i] = WORD;
                values[i] = wordNumber(start, end);
            } else if (isDigit(bytes[start])) {
                tokens[i] = NUMBER;
                values[i] = worth(start, end);
            } else {
                tokens[i] = bytes[start] == ';' ? SIGN : WRONG;
            }
        }

        private int worth(int start, int end) {
            int sum = 0;
            for (int i = start; i < end; i++) {
                // One above the limit is enough to tell that it is too great.
                sum = Math.min(10 * sum + bytes[i] - '0', NUMBER_LIMIT + 1);
            }
            return sum;
        }

        private int wordNumber(int start, int end) {
            int number = 0;
            int begin = 0;
            for (int i = 0; i < WORDS.length(); i++) {
                if (WORDS.charAt(i) == ' ') {
                    if (i - begin == end - start && isAlike(start, end, begin)) {
                        return number;
                    }
                    number++;
                    begin = i + 1;
                }
            }
            return NOTHING;
        }

        /** Asked only if WORDS has as many signs from begin on. */
        private boolean isAlike(int start, int end, int begin) {
            for (int i = start; i < end; i++) {
                if (bytes[i] != WORDS.charAt(begin + i - start)) {
                    return false;
                }
            }
            return true;
        }

        private static boolean isLetter(int b) {
            return b >= 'a' && b <= 'z';
        }

        private static boolean isDigit(int b) {
            return b >= '0' && b <= '9';
        }
    }

    /**
     * Reads the TEXT of its tape into a town of its own, so that a FAULT leaves the real one as it is.
     * Where it stops, the TOKEN that it is at is the one at FAULT.
     */
    private static final class Reader {
        final Tape tape;
        final Town town;
        private final int[] told;
        private int at;

        Reader() {
            tape = new Tape();
            town = new Town();
            told = new int[3];
            at = 0;
        }

        /** How many ITEMS; with a FAULT -1 less it. */
        int readTape() {
            tape.cut();
            at = 0;
            for (int items = 1; items <= TAPE_LIMIT; items++) {
                if (!readItem()) {
                    break;
                }
                if (tape.tokens[at] == END) {
                    return items;
                }
                if (tape.tokens[at] != SIGN) {
                    break;
                }
                step();
            }
            return -1 - tape.starts[at];
        }

        /** Nothing comes behind END. */
        private void step() {
            if (at < TAPE_LIMIT && tape.tokens[at] != END) {
                at++;
            }
        }

        private boolean isWord(int number) {
            return tape.tokens[at] == WORD && tape.values[at] == number;
        }

        private boolean isNumber(int most) {
            return tape.tokens[at] == NUMBER && tape.values[at] <= most;
        }

        private boolean readItem() {
            if (isWord(SAYING_WORD)) {
                return readSaying();
            }
            if (isWord(TALK_WORD)) {
                return readTalk();
            }
            int kind = tape.tokens[at] == WORD ? tape.values[at] : NOTHING;
            return within(kind, KINDS - 1) && readPerson(kind);
        }

        private boolean readPerson(int kind) {
            if (town.people >= PEOPLE_LIMIT) {
                return false;
            }
            step();
            int trust = USUAL_TRUST;
            if (isWord(TRUST_WORD)) {
                step();
                if (!isNumber(TRUST_LIMIT)) {
                    return false;
                }
                trust = tape.values[at];
                step();
            }
            int quiet = 0;
            if (isWord(QUIET_WORD)) {
                quiet = 1;
                step();
            }
            town.settle(kind, trust, quiet);
            return true;
        }

        private boolean readSaying() {
            if (town.sayings >= SAYINGS_LIMIT
                    || !readNumbers(town.people - 1, PEOPLE_LIMIT - 1, WEIGHT_LIMIT)) {
                return false;
            }
            town.putAbout(told[0], told[1], told[2]);
            return true;
        }

        private boolean readTalk() {
            if (!readNumbers(PLACES - 1, PEOPLE_LIMIT - 1, PEOPLE_LIMIT - 1)) {
                return false;
            }
            town.list[told[0]] = 10 * told[1] + told[2];
            return true;
        }

        /** The three NUMBERS behind a WORD, each with the greatest that can stand there. */
        private boolean readNumbers(int first, int second, int third) {
            for (int i = 0; i < told.length; i++) {
                step();
                int most = i == 0 ? first : i == 1 ? second : third;
                if (!isNumber(most)) {
                    return false;
                }
                told[i] = tape.values[at];
            }
            step();
            return true;
        }
    }
}
