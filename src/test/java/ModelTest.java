import java.util.Random;

/** Many runs of calls, drawn with a fixed seed, on the class and on the model: all answers alike. */
public final class ModelTest {
    private static final int RUNS = 300;
    private static final int CALLS = 512;
    private static final Due due = new Due();

    private final Random random;
    private final LentYouths x = new LentYouths();
    private final Model m = new Model();
    private final String run;

    private ModelTest(int seed) {
        random = new Random(seed);
        run = "run " + seed + ": ";
    }

    public static void main(String[] args) {
        for (int seed = 0; seed < RUNS; seed++) {
            ModelTest test = new ModelTest(seed);
            for (int used = 0; used < CALLS - 80;) {
                used += test.step();
            }
        }
        due.finish();
    }

    /** Mostly a number of 0 .. most, now and then one near it or far off. */
    private int upTo(int most) {
        int[] odd = {-1, -2, most + 1, most + 2, Integer.MIN_VALUE, Integer.MAX_VALUE};
        return random.nextInt(20) == 0 ? odd[random.nextInt(odd.length)] : random.nextInt(most + 1);
    }

    private int person() {
        return upTo(Math.max(1, m.told.size() - 1));
    }

    /** Calls something on both, and compares: how many calls that were. */
    private int step() {
        switch (random.nextInt(12)) {
            case 0:
                return random.nextInt(4) == 0 ? writeText() : 1 + sheets();
            case 1:
                return writeLoans();
            case 2:
            case 3:
                return askLoans();
            case 4:
            case 5:
                return askReadings();
            case 6:
                return changePeople();
            case 7:
                return askFewest();
            case 8:
                return parts();
            default:
                return m.told.isEmpty() ? writeText() : askLoans();
        }
    }

    private int writeText() {
        StringBuilder text = new StringBuilder("k");
        int people = 1 + random.nextInt(random.nextInt(4) == 0 ? 7 : 5);
        for (int p = 0; p <= people; p++) {
            int set = random.nextInt(64) & (random.nextBoolean() ? 63 : random.nextInt(64));
            text.append(';').append("cst".charAt(random.nextInt(3))).append(set / 10).append(set % 10);
            text.append(random.nextInt(7)).append(1 + random.nextInt(random.nextInt(3) == 0 ? 9 : 2));
        }
        if (random.nextInt(3) == 0) {
            text.setCharAt(random.nextInt(text.length()), "kcst;/0123456789:\u007f".charAt(random.nextInt(18)));
        }
        if (random.nextInt(5) == 0) {
            text.setLength(random.nextInt(text.length()));
        }
        int sheet = random.nextInt(4);
        int lane = random.nextInt(3);
        int ahead = random.nextInt(3);
        int cells = text.length() + ahead;
        int calls = text.length() + 2;
        due.is(run + "sheet", x.sheet(sheet, lane, cells), m.sheet(sheet, lane, cells));
        for (int i = 0; i < text.length(); i++) {
            put(sheet, ahead + i, text.charAt(i));
        }
        due.is(run + "counter " + text, x.counter(sheet, lane, ahead, text.length()),
            m.counter(sheet, lane, ahead, text.length()));
        for (int p = 0; p < 7; p++) {
            for (int what = 0; what < 5; what++) {
                due.is(run + "ofPerson", x.ofPerson(p, what), m.ofPerson(p, what));
                calls++;
            }
        }
        return calls + fault();
    }

    private int fault() {
        due.is(run + "fault", x.fault(), m.fault);
        return 1;
    }

    private void put(int sheet, int i, int v) {
        due.is(run + "put", x.put(sheet, i, v), m.put(sheet, i, v));
    }

    private int writeLoans() {
        int sheet = random.nextInt(4);
        int lane = random.nextInt(3);
        int loans = random.nextInt(random.nextInt(4) == 0 ? 21 : 7);
        due.is(run + "sheet", x.sheet(sheet, lane, 2 * loans), m.sheet(sheet, lane, 2 * loans));
        int before = -1;
        for (int i = 0; i < 2 * loans; i++) {
            int p = random.nextInt(Math.max(2, m.told.size()));
            if (p == before && random.nextInt(5) != 0) {
                p = (p + 1) % Math.max(2, m.told.size());
            }
            put(sheet, i, random.nextInt(100) == 0 ? upTo(6) : p);
            before = i % 2 == 0 ? p : -1;
        }
        return 2 * loans + 1;
    }

    private int sheets() {
        int k = upTo(3);
        int lane = upTo(2);
        int i = upTo(10);
        int other = upTo(3);
        int j = upTo(10);
        int n = random.nextBoolean() ? upTo(60) : upTo(8);
        switch (random.nextInt(6)) {
            case 0:
                due.is(run + "sheet", x.sheet(k, lane, n), m.sheet(k, lane, n));
                break;
            case 1:
                due.is(run + "lose", x.lose(k), m.lose(k));
                break;
            case 2:
                int v = random.nextInt();
                due.is(run + "put", x.put(k, i, v), m.put(k, i, v));
                break;
            case 3:
                due.is(run + "cell", x.cell(k, i, lane), m.cell(k, i, lane));
                break;
            case 4:
                due.is(run + "counter", x.counter(k, lane, i, n), m.counter(k, lane, i, n));
                break;
            default:
                due.is(run + "copy", x.copy(k, i, other, j, n), m.copy(k, i, other, j, n));
        }
        return fault();
    }

    /** The lane is mostly that of the sheet, n mostly all that the sheet has. */
    private int laneOf(int sheet) {
        return sheet >= 0 && sheet < 4 && random.nextInt(20) != 0 ? m.lanes[sheet] : upTo(2);
    }

    private int loansOf(int sheet) {
        boolean there = sheet >= 0 && sheet < 4 && m.rows[sheet] != null;
        return there && random.nextInt(10) != 0 ? random.nextInt(m.rows[sheet].length / 2 + 1) : upTo(20);
    }

    private int place() {
        return random.nextInt(4) == 0 ? upTo(4) : 0;
    }

    private int askLoans() {
        int sheet = upTo(3);
        int lane = laneOf(sheet);
        int i = place();
        int n = loansOf(sheet);
        int calls = 0;
        for (int round = 0; round < 6; round++) {
            int what = new int[] {0, 1, 2, 3, 10, 20, 30}[random.nextInt(7)];
            what = random.nextInt(10) == 0 ? upTo(40) : what < 10 ? what : what + random.nextInt(6);
            due.is(run + "loans " + what, x.loans(sheet, lane, i, n, what), m.loans(sheet, lane, i, n, what));
            calls += 1 + fault();
        }
        int p = person();
        for (int which = 0; which < 2; which++) {
            due.is(run + "odds", x.odds(p, sheet, lane, i, n, which), m.odds(p, sheet, lane, i, n, which));
            calls += 1 + fault();
        }
        return calls;
    }

    private int askReadings() {
        int sheet = upTo(3);
        int lane = laneOf(sheet);
        int i = place();
        int n = loansOf(sheet);
        int p = person();
        int q = person();
        int scene = upTo(5);
        boolean knew = random.nextBoolean();
        due.is(run + "reading", x.reading(q, scene, knew), m.reading(q, scene, knew));
        int k = random.nextInt(3) == 0 ? upTo(m.readings.size()) : 0;
        due.is(run + "back", x.back(k), m.back(k));
        int which = upTo(1);
        due.is(run + "told", x.told(p, sheet, lane, i, n, which), m.told(p, sheet, lane, i, n, which));
        fault();
        due.is(run + "kinds", x.kinds(p, sheet, lane, i, n), m.kinds(p, sheet, lane, i, n));
        fault();
        due.is(run + "wears", x.wears(p, sheet, lane, i, n), m.wears(p, sheet, lane, i, n));
        fault();
        return 8;
    }

    private int changePeople() {
        int p = person();
        int set = random.nextInt(4) == 0 ? 0 : upTo(63);
        due.is(run + "live", x.live(p, set), m.live(p, set));
        int q = person();
        int scene = upTo(6);
        due.is(run + "want", x.want(q, scene), m.want(q, scene));
        return 2;
    }

    private int askFewest() {
        int all = (1 << m.told.size()) - 1;
        int set = upTo(all);
        int k = random.nextInt(4) - 1;
        due.is(run + "fewest", x.fewest(set, k), m.fewest(set, k));
        int strange = upTo(2);
        due.is(run + "fewest k", x.fewest(0, strange), m.fewest(0, strange));
        int p = random.nextInt(8) - 1;
        due.is(run + "match", x.match(p), m.match(p));
        int q = upTo(6);
        due.is(run + "match q", x.match(q), m.match(q));
        due.is(run + "help", x.help(p), m.help(p));
        return 5;
    }

    private int parts() {
        int p = person();
        int kind = upTo(2);
        due.is(run + "tell", x.tell(p), m.tell(p));
        due.is(run + "hand", x.hand(p), m.hand(p));
        due.is(run + "trace", x.trace(), m.trace);
        due.is(run + "as", x.as(p, kind), m.as(p, kind));
        int what = upTo(1);
        due.is(run + "many", x.many(what), m.many(what));
        return 5 + fault();
    }
}
