/** A counter at which people exchange their childhoods. README.md says how to use it. */
public final class LentYouths {
    public static final int UNKNOWN = -1, OUTSIDE = -2, STATE = -3, FULL = -4, NONE = -9;
    public static final long LOST = Long.MIN_VALUE;

    private static final int NULL = 1, CAST = 2, INDEX = 3, SIZE = 4;
    private static final int MOST_SHEETS = 4, LANES = 3, MOST_CELLS = 60;
    private static final int LEAST_PEOPLE = 2, MOST_PEOPLE = 6, CODES_EACH = 6;
    private static final int SCENES = 6, SETS = 64, NO_SCENE = 6;
    private static final int KINDS = 3, SAD = 1, TWIN = 2, MOST_WEAR = 9;
    private static final int MOST_LOANS = 20, MOST_FEWEST = 3, MOST_READINGS = 8;

    private final Sheet[] sheets = new Sheet[MOST_SHEETS];
    private final Person[] persons = new Person[MOST_PEOPLE];
    private final Readings readings = new Readings();
    private final Exchange exchange = new Exchange();
    private final FewestSearch search = new FewestSearch();
    private final Matching matching = new Matching();
    private final int[] row = new int[2 * MOST_LOANS];
    private int people = 0;
    private int traced = 0;
    private int latestFault = 0;

    public LentYouths() {
        for (int k = 0; k < MOST_SHEETS; k++) {
            sheets[k] = new Sheet();
        }
        for (int p = 0; p < MOST_PEOPLE; p++) {
            persons[p] = new Person();
        }
    }

    // ---- 1 the counter

    public int counter(int sheet, int lane, int i, int n) {
        latestFault = 0;
        if (!isSheet(sheet)) {
            return UNKNOWN;
        }
        if (!isLane(lane)) {
            return OUTSIDE;
        }
        Sheet text = sheets[sheet];
        int fault = text.faultOfCells(lane, i, n);
        if (fault != 0) {
            return faultAnswer(fault);
        }
        int firstFault = firstFaultOfText(text, i, n);
        if (firstFault != NONE) {
            return -100 - firstFault;
        }
        people = n / CODES_EACH;
        for (int p = 0; p < people; p++) {
            persons[p].readFrom(text, i + 1 + CODES_EACH * p);
        }
        readings.count = 0;
        return people;
    }

    public int ofPerson(int p, int what) {
        if (!isPerson(p)) {
            return UNKNOWN;
        }
        Person person = persons[p];
        switch (what) {
            case 0:
                return person.kind;
            case 1:
                return person.scenes;
            case 2:
                return person.wanted;
            case 3:
                return person.wear;
            case 4:
                return person.lasts();
            default:
                return OUTSIDE;
        }
    }

    public int live(int p, int set) {
        if (!isPerson(p)) {
            return UNKNOWN;
        }
        if (set < 0 || set >= SETS) {
            return OUTSIDE;
        }
        int before = persons[p].scenes;
        persons[p].scenes = set;
        return before;
    }

    public int want(int p, int scene) {
        if (!isPerson(p)) {
            return UNKNOWN;
        }
        if (scene < 0 || scene > NO_SCENE) {
            return OUTSIDE;
        }
        int before = persons[p].wanted;
        persons[p].wanted = scene;
        return before;
    }

    // ---- 2 loans

    public int loans(int sheet, int lane, int i, int n, int what) {
        latestFault = 0;
        if (!isSheet(sheet)) {
            return UNKNOWN;
        }
        if (!isLane(lane) || !isLoanCount(n) || !isLoanQuestion(what)) {
            return OUTSIDE;
        }
        if (people == 0) {
            return STATE;
        }
        int refusal = takeRow(sheet, lane, i, n);
        if (refusal != 0) {
            return refusal;
        }
        exchange.begin(persons, people);
        int firstWrong = exchange.play(row, n);
        if (what == 1) {
            return firstWrong;
        }
        return firstWrong == NONE ? answerOfLoans(n, what) : -100 - firstWrong;
    }

    /** The answer to a question about loans that have just been played and can be. */
    private int answerOfLoans(int n, int what) {
        switch (what) {
            case 0:
                return exchange.mended();
            case 2:
                exchange.begin(persons, people);
                return exchange.firstThatMendsAll(row, n);
            case 3:
                return exchange.loansHome();
            default:
                return answerOfOne(what / 10, what % 10);
        }
    }

    private int answerOfOne(int question, int p) {
        if (!isPerson(p)) {
            return NONE;
        }
        switch (question) {
            case 1:
                return exchange.holds[p];
            case 2:
                return exchange.knows[p];
            default:
                return exchange.left[p];
        }
    }

    // ---- 3 the fewest, the match

    public int fewest(int set, int k) {
        if (people == 0) {
            return STATE;
        }
        if (k < -1 || k >= MOST_FEWEST || set < 0 || set >= 1 << people) {
            return OUTSIDE;
        }
        int count = search.find(persons, people, set);
        if (k == -1) {
            return count;
        }
        return k < count ? search.loanAt(k) : NONE;
    }

    public int match(int p) {
        if (p < -1) {
            return UNKNOWN;
        }
        if (people == 0) {
            return STATE;
        }
        matching.make(persons, people);
        if (p == -1) {
            return matching.mostMended();
        }
        return isPerson(p) ? matching.gets[p] : NONE;
    }

    public int help(int p) {
        if (!isPerson(p)) {
            return UNKNOWN;
        }
        int count = 0;
        for (int q = 0; q < people; q++) {
            int wanted = persons[q].wantedSet();
            if ((wanted & persons[p].scenes & ~persons[q].scenes) != 0) {
                count++;
            }
        }
        return count;
    }

    // ---- 4 what people knew

    public int reading(int p, int scene, boolean knew) {
        if (!isPerson(p) || scene < 0 || scene >= SCENES) {
            return UNKNOWN;
        }
        return readings.add(p, scene, knew) ? readings.count - 1 : FULL;
    }

    public int back(int k) {
        if (k < 0 || k > readings.count) {
            return OUTSIDE;
        }
        readings.count -= k;
        return readings.count;
    }

    public int told(int p, int sheet, int lane, int i, int n, int which) {
        int refusal = refusalOfReadLoans(p, sheet, lane, i, n, which);
        if (refusal != 0) {
            return refusal;
        }
        int lasts = persons[p].lasts();
        int count = 0;
        int least = NONE;
        for (int set = SETS - 1; set >= 0; set--) {
            if (couldBe(p, set, lasts, n)) {
                count++;
                least = set;
            }
        }
        return which == 0 ? count : least;
    }

    public int kinds(int p, int sheet, int lane, int i, int n) {
        int refusal = refusalOfReadLoans(p, sheet, lane, i, n, 0);
        if (refusal != 0) {
            return refusal;
        }
        Person person = persons[p];
        int set = 0;
        for (int kind = 0; kind < KINDS; kind++) {
            if (couldBe(p, person.scenes, lastsOf(kind, person.wear), n)) {
                set |= 1 << kind;
            }
        }
        return set;
    }

    public int wears(int p, int sheet, int lane, int i, int n) {
        int refusal = refusalOfReadLoans(p, sheet, lane, i, n, 0);
        if (refusal != 0) {
            return refusal;
        }
        Person person = persons[p];
        int set = 0;
        for (int wear = 1; wear <= MOST_WEAR; wear++) {
            if (couldBe(p, person.scenes, lastsOf(person.kind, wear), n)) {
                set |= 1 << wear;
            }
        }
        return set;
    }

    public long odds(int p, int sheet, int lane, int i, int n, int which) {
        if (refusalOfReadLoans(p, sheet, lane, i, n, which) != 0) {
            return LOST;
        }
        exchange.begin(persons, people);
        if (exchange.play(row, n) != NONE) {
            return LOST;
        }
        if (persons[p].wanted == NO_SCENE) {
            return 1;
        }
        // Only if each childhood's memory of the wanted scene is lost is the person not mended.
        long lower = 1L << exchange.childhoodsThatShowed(p, persons[p].wantedSet());
        return which == 0 ? lower - 1 : lower;
    }

    /** Whether the loans in the row can be and all readings are so, if childhood p were this one. */
    private boolean couldBe(int p, int scenes, int lasts, int n) {
        exchange.begin(persons, people);
        exchange.place(p, scenes, lasts);
        return exchange.play(row, n) == NONE && readings.areSoIn(exchange);
    }

    /** The answer that told() gives instead of its own, or 0; the loans are then in the row. */
    private int refusalOfReadLoans(int p, int sheet, int lane, int i, int n, int which) {
        latestFault = 0;
        if (!isPerson(p) || !isSheet(sheet)) {
            return UNKNOWN;
        }
        if (!isLane(lane) || !isLoanCount(n) || which < 0 || which > 1) {
            return OUTSIDE;
        }
        return takeRow(sheet, lane, i, n);
    }

    // ---- 5 sheets, parts

    public int sheet(int k, int lane, int n) {
        latestFault = 0;
        if (!isSheet(k)) {
            return UNKNOWN;
        }
        if (!isLane(lane) || n > MOST_CELLS) {
            return OUTSIDE;
        }
        if (n < 0) {
            return faultAnswer(SIZE);
        }
        sheets[k].renew(lane, n);
        return 1;
    }

    public int lose(int k) {
        if (!isSheet(k)) {
            return UNKNOWN;
        }
        int had = sheets[k].present ? 1 : 0;
        sheets[k].present = false;
        return had;
    }

    public int put(int k, int i, int v) {
        latestFault = 0;
        if (!isSheet(k)) {
            return UNKNOWN;
        }
        Sheet sheet = sheets[k];
        int fault = sheet.faultOfCells(sheet.lane, i, 1);
        if (fault != 0) {
            return faultAnswer(fault);
        }
        sheet.cells[i] = cutToLane(sheet.lane, v);
        return 1;
    }

    public long cell(int k, int i, int lane) {
        latestFault = 0;
        if (!isSheet(k) || !isLane(lane)) {
            return LOST;
        }
        latestFault = sheets[k].faultOfCells(lane, i, 1);
        return latestFault == 0 ? sheets[k].cells[i] : LOST;
    }

    public int copy(int k, int i, int other, int j, int n) {
        latestFault = 0;
        if (!isSheet(k) || !isSheet(other)) {
            return UNKNOWN;
        }
        Sheet from = sheets[k];
        Sheet to = sheets[other];
        if (!from.present || !to.present) {
            return faultAnswer(NULL);
        }
        if (from.lane != to.lane) {
            return faultAnswer(CAST);
        }
        if (!from.hasCells(i, n) || !to.hasCells(j, n)) {
            return faultAnswer(INDEX);
        }
        System.arraycopy(from.cells, i, to.cells, j, n);
        return n;
    }

    public int tell(int p) {
        if (!isPerson(p)) {
            return UNKNOWN;
        }
        switch (persons[p].kind) {
            case TWIN:
                return tellingOfTwin(persons[p]);
            case SAD:
                return tellingOfSad(persons[p]);
            default:
                return tellingOfChildhood(persons[p]);
        }
    }

    public int hand(int p) {
        if (!isPerson(p)) {
            return UNKNOWN;
        }
        if (persons[p].kind == TWIN) {
            leaveInTrace(5);
            return 40;
        }
        leaveInTrace(4);
        return p;
    }

    public int as(int p, int kind) {
        latestFault = 0;
        if (!isPerson(p)) {
            return UNKNOWN;
        }
        if (kind < 0 || kind >= KINDS) {
            return OUTSIDE;
        }
        // Each kind is one of the kind numbered before it.
        return persons[p].kind >= kind ? 1 : faultAnswer(CAST);
    }

    public int trace() {
        return traced;
    }

    public int fault() {
        return latestFault;
    }

    public int many(int what) {
        switch (what) {
            case 0:
                return people;
            case 1:
                return readings.count;
            default:
                return OUTSIDE;
        }
    }

    private int tellingOfChildhood(Person person) {
        leaveInTrace(1);
        return person.wear;
    }

    private int tellingOfSad(Person person) {
        leaveInTrace(2);
        return tellingOfChildhood(person) + 100;
    }

    private int tellingOfTwin(Person person) {
        leaveInTrace(3);
        int ofSad = tellingOfSad(person);
        return ofSad + tellingOfChildhood(person);
    }

    private void leaveInTrace(int body) {
        traced = 31 * traced + body;
    }

    private int faultAnswer(int fault) {
        latestFault = fault;
        return -10 - fault;
    }

    /** Takes the cells of n loans into the row: 0, or what the call answers instead. */
    private int takeRow(int sheet, int lane, int i, int n) {
        int fault = sheets[sheet].faultOfCells(lane, i, 2 * n);
        if (fault != 0) {
            return faultAnswer(fault);
        }
        for (int j = 0; j < 2 * n; j++) {
            int p = sheets[sheet].cells[i + j];
            if (!isPerson(p)) {
                return UNKNOWN;
            }
            row[j] = p;
        }
        return 0;
    }

    private boolean isPerson(int p) {
        return p >= 0 && p < people;
    }

    private static boolean isSheet(int k) {
        return k >= 0 && k < MOST_SHEETS;
    }

    private static boolean isLane(int lane) {
        return lane >= 0 && lane < LANES;
    }

    private static boolean isLoanCount(int n) {
        return n >= 0 && n <= MOST_LOANS;
    }

    private static boolean isLoanQuestion(int what) {
        if (what >= 0 && what <= 3) {
            return true;
        }
        return what >= 10 && what < 40 && what % 10 < MOST_PEOPLE;
    }

    private static int lastsOf(int kind, int wear) {
        switch (kind) {
            case TWIN:
                return 2 * (wear + 1);
            case SAD:
                return wear + 1;
            default:
                return wear;
        }
    }

    private static int cutToLane(int lane, int v) {
        switch (lane) {
            case 0:
                return (byte) v;
            case 1:
                return (short) v;
            default:
                return v;
        }
    }

    /** The first fault of a text of n codes from a cell on; NONE, if it is taken. */
    private static int firstFaultOfText(Sheet text, int from, int n) {
        int codeBefore = 0;
        for (int place = 0; place < n; place++) {
            int code = text.cells[from + place];
            if (!textGoesOn(place, codeBefore, code)) {
                return place;
            }
            codeBefore = code;
        }
        boolean whole = n % CODES_EACH == 1 && n > LEAST_PEOPLE * CODES_EACH;
        return whole ? NONE : n;
    }

    private static boolean textGoesOn(int place, int codeBefore, int code) {
        if (place == 0) {
            return code == 'k';
        }
        if (place > MOST_PEOPLE * CODES_EACH) {
            return false;
        }
        switch ((place - 1) % CODES_EACH) {
            case 0:
                return code == ';';
            case 1:
                return code == 'c' || code == 's' || code == 't';
            case 2:
                return code >= '0' && code <= '6';
            case 3:
                return code >= '0' && code <= (codeBefore == '6' ? '3' : '9');
            case 4:
                return code >= '0' && code <= '6';
            default:
                return code >= '1' && code <= '9';
        }
    }

    /** A row of numbers of a lane, or nothing. */
    private static final class Sheet {
        final int[] cells = new int[MOST_CELLS];
        boolean present = false;
        int lane = 0;
        int count = 0;

        void renew(int newLane, int newCount) {
            present = true;
            lane = newLane;
            count = newCount;
            for (int i = 0; i < MOST_CELLS; i++) {
                cells[i] = 0;
            }
        }

        /** The fault that is come to by n cells from i on, taken as a row of a lane; 0, if none is. */
        int faultOfCells(int asLane, int i, int n) {
            if (present && lane != asLane) {
                return CAST;
            }
            if (!present) {
                return NULL;
            }
            if (n < 0) {
                return SIZE;
            }
            return hasCells(i, n) ? 0 : INDEX;
        }

        boolean hasCells(int i, int n) {
            return n >= 0 && i >= 0 && i <= count && n <= count - i;
        }
    }

    /** A person, with what their own childhood is told to be. */
    private static final class Person {
        int kind = 0;
        int scenes = 0;
        int wanted = NO_SCENE;
        int wear = 1;

        /** Reads the codes of a text that is taken, from the person's ; on. */
        void readFrom(Sheet text, int at) {
            int letter = text.cells[at + 1];
            kind = letter == 't' ? TWIN : letter == 's' ? SAD : 0;
            scenes = 10 * (text.cells[at + 2] - '0') + text.cells[at + 3] - '0';
            wanted = text.cells[at + 4] - '0';
            wear = text.cells[at + 5] - '0';
        }

        int lasts() {
            return lastsOf(kind, wear);
        }

        /** The wanted scene as a set; the empty set for none. */
        int wantedSet() {
            return wanted == NO_SCENE ? 0 : 1 << wanted;
        }

        boolean isMendedBy(int known) {
            return wanted == NO_SCENE || (known & wantedSet()) != 0;
        }
    }

    /** What people say that somebody knew, or did not know, behind loans. */
    private static final class Readings {
        final int[] who = new int[MOST_READINGS];
        final int[] scene = new int[MOST_READINGS];
        final boolean[] knew = new boolean[MOST_READINGS];
        int count = 0;

        boolean add(int p, int ofScene, boolean knewIt) {
            if (count >= MOST_READINGS) {
                return false;
            }
            who[count] = p;
            scene[count] = ofScene;
            knew[count] = knewIt;
            count++;
            return true;
        }

        boolean areSoIn(Exchange exchange) {
            for (int k = 0; k < count; k++) {
                boolean knows = (exchange.knows[who[k]] >> scene[k] & 1) == 1;
                if (knows != knew[k]) {
                    return false;
                }
            }
            return true;
        }
    }

    /** How it stands behind some loans; the same rows serve for all calls. */
    private static final class Exchange {
        final int[] left = new int[MOST_PEOPLE];
        final int[] lasts = new int[MOST_PEOPLE];
        final int[] lent = new int[MOST_PEOPLE];
        final int[] holds = new int[MOST_PEOPLE];
        final int[] knows = new int[MOST_PEOPLE];
        /** What each person came to know by each childhood, as a set: person by person. */
        final int[] shown = new int[MOST_PEOPLE * MOST_PEOPLE];
        Person[] persons = new Person[0];
        int people = 0;

        /** Goes back to where each has their own childhood, as it is told. */
        void begin(Person[] told, int howMany) {
            persons = told;
            people = Math.min(howMany, Math.min(told.length, MOST_PEOPLE));
            for (int k = 0; k < shown.length; k++) {
                shown[k] = 0;
            }
            for (int p = 0; p < people; p++) {
                lent[p] = 0;
                holds[p] = p;
                place(p, persons[p].scenes, persons[p].lasts());
            }
        }

        /** Puts a childhood in place of that with the same number, ahead of all loans. */
        void place(int p, int scenes, int howLong) {
            left[p] = scenes;
            lasts[p] = howLong;
            knows[p] = scenes;
            shown[MOST_PEOPLE * p + p] = scenes;
        }

        void becomeLike(Exchange other) {
            persons = other.persons;
            people = other.people;
            System.arraycopy(other.left, 0, left, 0, MOST_PEOPLE);
            System.arraycopy(other.lasts, 0, lasts, 0, MOST_PEOPLE);
            System.arraycopy(other.lent, 0, lent, 0, MOST_PEOPLE);
            System.arraycopy(other.holds, 0, holds, 0, MOST_PEOPLE);
            System.arraycopy(other.knows, 0, knows, 0, MOST_PEOPLE);
            System.arraycopy(other.shown, 0, shown, 0, shown.length);
        }

        /** Plays the first n loans of a row of people up to the first wrong one: that, or NONE. */
        int play(int[] row, int n) {
            for (int j = 0; j < n; j++) {
                if (!canLend(row[2 * j], row[2 * j + 1])) {
                    return j;
                }
                lend(row[2 * j], row[2 * j + 1]);
            }
            return NONE;
        }

        /** The first of n loans that can be, behind which all are mended; NONE, if they already are. */
        int firstThatMendsAll(int[] row, int n) {
            int all = (1 << people) - 1;
            if (mended() == all) {
                return NONE;
            }
            for (int j = 0; j < n; j++) {
                lend(row[2 * j], row[2 * j + 1]);
                if (mended() == all) {
                    return j;
                }
            }
            return NONE;
        }

        boolean canLend(int a, int b) {
            return a != b && left[holds[a]] != 0 && left[holds[b]] != 0;
        }

        void lend(int a, int b) {
            int given = holds[a];
            holds[a] = holds[b];
            holds[b] = given;
            wearOff(holds[a]);
            wearOff(holds[b]);
            show(a);
            show(b);
        }

        private void wearOff(int childhood) {
            lent[childhood]++;
            if (lent[childhood] > lasts[childhood]) {
                left[childhood] &= left[childhood] - 1;
            }
        }

        private void show(int p) {
            knows[p] |= left[holds[p]];
            shown[MOST_PEOPLE * p + holds[p]] |= left[holds[p]];
        }

        /** By how many childhoods a person came to know a scene of a set. */
        int childhoodsThatShowed(int p, int set) {
            int count = 0;
            for (int c = 0; c < people; c++) {
                if ((shown[MOST_PEOPLE * p + c] & set) != 0) {
                    count++;
                }
            }
            return count;
        }

        int mended() {
            int set = 0;
            for (int p = 0; p < people; p++) {
                if (persons[p].isMendedBy(knows[p])) {
                    set |= 1 << p;
                }
            }
            return set;
        }

        /** A ring of c people that have one another's childhoods needs c - 1 loans. */
        int loansHome() {
            int rings = 0;
            int met = 0;
            for (int p = 0; p < people; p++) {
                if ((met >> p & 1) == 0) {
                    rings++;
                }
                int next = p;
                for (int step = 0; step < people; step++) {
                    met |= 1 << next;
                    next = holds[next];
                }
            }
            return people - rings;
        }
    }

    /** The search for the fewest loans that mend a set of people. */
    private static final class FewestSearch {
        /** How it stands behind as many loans as the number says. */
        final Exchange[] behind = new Exchange[MOST_FEWEST + 1];
        final int[] found = new int[MOST_FEWEST];

        FewestSearch() {
            for (int depth = 0; depth <= MOST_FEWEST; depth++) {
                behind[depth] = new Exchange();
            }
        }

        /** How many loans are needed; NONE, if none mend the set. */
        int find(Person[] told, int people, int set) {
            behind[0].begin(told, people);
            for (int most = 0; most <= MOST_FEWEST; most++) {
                if (mends(this, 0, most, set)) {
                    return most;
                }
            }
            return NONE;
        }

        int loanAt(int k) {
            return found[k];
        }

        /** Whether the set is mended behind so many loans in all, the first ones already lent. */
        private static boolean mends(FewestSearch search, int depth, int most, int set) {
            Exchange now = search.behind[depth];
            // A loan shows something new to two people only.
            if (Integer.bitCount(set & ~now.mended()) > 2 * (most - depth)) {
                return false;
            }
            if (depth >= most) {
                return true;
            }
            Exchange next = search.behind[depth + 1];
            for (int a = 0; a < now.people; a++) {
                for (int b = a + 1; b < now.people; b++) {
                    if (now.canLend(a, b)) {
                        next.becomeLike(now);
                        next.lend(a, b);
                        search.found[depth] = 10 * a + b;
                        if (mends(search, depth + 1, most, set)) {
                            return true;
                        }
                    }
                }
            }
            return false;
        }
    }

    /** The exchange of childhoods, as they are told, by which the most are mended. */
    private static final class Matching {
        /** The most of the later people that can be mended, when a set of childhoods is given. */
        final int[] most = new int[1 << MOST_PEOPLE];
        final int[] gets = new int[MOST_PEOPLE];

        int mostMended() {
            return most[0];
        }

        void make(Person[] persons, int people) {
            int all = (1 << people) - 1;
            most[all] = 0;
            for (int given = all - 1; given >= 0; given--) {
                most[given] = -1;
                for (int c = 0; c < people; c++) {
                    if ((given >> c & 1) == 0) {
                        most[given] = Math.max(most[given], mendedFrom(persons, given, c));
                    }
                }
            }
            int given = 0;
            for (int p = 0; p < people; p++) {
                gets[p] = firstBest(persons, people, given);
                given |= 1 << gets[p];
            }
        }

        /** How many are mended from the next person on, if that one gets childhood c. */
        private int mendedFrom(Person[] persons, int given, int c) {
            Person person = persons[Integer.bitCount(given)];
            int mended = person.isMendedBy(person.scenes | persons[c].scenes) ? 1 : 0;
            return mended + most[given | 1 << c];
        }

        private int firstBest(Person[] persons, int people, int given) {
            for (int c = 0; c < people; c++) {
                if ((given >> c & 1) == 0 && mendedFrom(persons, given, c) == most[given]) {
                    return c;
                }
            }
            return 0;
        }
    }
}
