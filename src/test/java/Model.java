import java.util.ArrayList;
import java.util.HashSet;
import java.util.List;
import java.util.Set;
import java.util.TreeSet;
import java.util.regex.Matcher;
import java.util.regex.Pattern;

/** The document told a second time, plainly and without thrift, for ModelTest. */
final class Model {
    private static final Pattern TEXT = Pattern.compile("k(;[cst]([0-5][0-9]|6[0-3])[0-6][1-9]){2,6}");

    /** One childhood, or its person: changed copies serve for "in place of what it is alone". */
    record Youth(int kind, int scenes, int wanted, int wear) {
        int lasts() {
            return kind == 0 ? wear : kind == 1 ? wear + 1 : 2 * (wear + 1);
        }
    }

    record Reading(int p, int scene, boolean knew) { }

    /** How it stands behind loans: -1 is no wrong loan. */
    static final class State {
        final List<Youth> told;
        final List<TreeSet<Integer>> left = new ArrayList<>();
        final List<Set<Integer>> knows = new ArrayList<>();
        final List<Set<Integer>> memories = new ArrayList<>();
        final List<Integer> has = new ArrayList<>();
        final int[] lent;
        int firstWrong = -1;
        int firstAllMended = -9;

        State(List<Youth> told, List<Integer> row) {
            this.told = told;
            lent = new int[told.size()];
            for (int p = 0; p < told.size(); p++) {
                left.add(scenesOf(told.get(p).scenes()));
                knows.add(new HashSet<>(left.get(p)));
                memories.add(new HashSet<>());
                has.add(p);
                remember(p);
            }
            boolean already = mended().size() == told.size();
            for (int j = 0; j < row.size() / 2 && firstWrong < 0; j++) {
                int a = row.get(2 * j);
                int b = row.get(2 * j + 1);
                if (a == b || left.get(has.get(a)).isEmpty() || left.get(has.get(b)).isEmpty()) {
                    firstWrong = j;
                } else {
                    exchange(a, b);
                    if (!already && firstAllMended < 0 && mended().size() == told.size()) {
                        firstAllMended = j;
                    }
                }
            }
        }

        private void exchange(int a, int b) {
            int ofA = has.get(a);
            has.set(a, has.get(b));
            has.set(b, ofA);
            for (int p : List.of(a, b)) {
                int c = has.get(p);
                if (++lent[c] > told.get(c).lasts()) {
                    left.get(c).pollFirst();
                }
                knows.get(p).addAll(left.get(c));
                remember(p);
            }
        }

        private void remember(int p) {
            for (int scene : left.get(has.get(p))) {
                memories.get(p).add(100 * has.get(p) + scene);
            }
        }

        Set<Integer> mended() {
            Set<Integer> all = new HashSet<>();
            for (int p = 0; p < told.size(); p++) {
                if (told.get(p).wanted() == 6 || knows.get(p).contains(told.get(p).wanted())) {
                    all.add(p);
                }
            }
            return all;
        }

        /** By trying ever longer rows of exchanges, as far as five. */
        int home() {
            Set<List<Integer>> reached = new HashSet<>();
            reached.add(has);
            List<Integer> own = new ArrayList<>();
            for (int p = 0; p < told.size(); p++) {
                own.add(p);
            }
            int loans = 0;
            while (!reached.contains(own)) {
                Set<List<Integer>> next = new HashSet<>();
                for (List<Integer> from : reached) {
                    for (int a = 0; a < own.size(); a++) {
                        for (int b = 0; b < a; b++) {
                            List<Integer> to = new ArrayList<>(from);
                            to.set(a, from.get(b));
                            to.set(b, from.get(a));
                            next.add(to);
                        }
                    }
                }
                reached = next;
                loans++;
            }
            return loans;
        }
    }

    final int[][] rows = new int[4][];
    final int[] lanes = new int[4];
    List<Youth> told = new ArrayList<>();
    final List<Reading> readings = new ArrayList<>();
    int trace = 0;
    int fault = 0;

    static TreeSet<Integer> scenesOf(int set) {
        TreeSet<Integer> scenes = new TreeSet<>();
        for (int k = 0; k < 32; k++) {
            if ((set >>> k) % 2 == 1) {
                scenes.add(k);
            }
        }
        return scenes;
    }

    static int setOf(Set<Integer> numbers) {
        int set = 0;
        for (int k : numbers) {
            set += 1 << k;
        }
        return set;
    }

    private boolean person(int p) {
        return 0 <= p && p < told.size();
    }

    private int faulty(int number) {
        fault = number;
        return -10 - number;
    }

    /** 0, or the answer of a fault that n cells from i on come to. */
    private int cells(int k, int lane, int i, int n) {
        if (rows[k] == null) {
            return faulty(1);
        }
        if (lanes[k] != lane) {
            return faulty(2);
        }
        if (n < 0) {
            return faulty(4);
        }
        if (i < 0 || i > rows[k].length || (long) i + n > rows[k].length) {
            return faulty(3);
        }
        return 0;
    }

    int counter(int k, int lane, int i, int n) {
        fault = 0;
        if (k < 0 || k > 3) {
            return -1;
        }
        if (lane < 0 || lane > 2) {
            return -2;
        }
        if (cells(k, lane, i, n) != 0) {
            return -10 - fault;
        }
        StringBuilder codes = new StringBuilder();
        for (int j = i; j < i + n; j++) {
            codes.append(rows[k][j] >= 1 && rows[k][j] < 128 ? (char) rows[k][j] : '?');
        }
        for (int length = 1; length <= n; length++) {
            Matcher m = TEXT.matcher(codes.substring(0, length));
            if (!m.matches() && !m.hitEnd()) {
                return -100 - (length - 1);
            }
        }
        if (!TEXT.matcher(codes).matches()) {
            return -100 - n;
        }
        told = new ArrayList<>();
        String[] parts = codes.toString().split(";");
        for (int p = 1; p < parts.length; p++) {
            told.add(new Youth("cst".indexOf(parts[p].charAt(0)), Integer.parseInt(parts[p].substring(1, 3)),
                Integer.parseInt(parts[p].substring(3, 4)), Integer.parseInt(parts[p].substring(4))));
        }
        readings.clear();
        return told.size();
    }

    int ofPerson(int p, int what) {
        if (!person(p)) {
            return -1;
        }
        Youth y = told.get(p);
        int[] all = {y.kind(), y.scenes(), y.wanted(), y.wear(), y.lasts()};
        return what < 0 || what > 4 ? -2 : all[what];
    }

    int live(int p, int set) {
        if (!person(p)) {
            return -1;
        }
        if (set < 0 || set > 63) {
            return -2;
        }
        Youth y = told.get(p);
        told.set(p, new Youth(y.kind(), set, y.wanted(), y.wear()));
        return y.scenes();
    }

    int want(int p, int scene) {
        if (!person(p)) {
            return -1;
        }
        if (scene < 0 || scene > 6) {
            return -2;
        }
        Youth y = told.get(p);
        told.set(p, new Youth(y.kind(), y.scenes(), scene, y.wear()));
        return y.wanted();
    }

    /** The cells of a row of loans; null, when a fault was come to or one is no person. */
    private List<Integer> taken(int k, int lane, int i, int n) {
        if (cells(k, lane, i, 2 * n) != 0) {
            return null;
        }
        List<Integer> row = new ArrayList<>();
        for (int j = i; j < i + 2 * n; j++) {
            row.add(rows[k][j]);
        }
        for (int p : row) {
            if (!person(p)) {
                return null;
            }
        }
        return row;
    }

    private int whyNotTaken() {
        return fault == 0 ? -1 : -10 - fault;
    }

    int loans(int k, int lane, int i, int n, int what) {
        fault = 0;
        if (k < 0 || k > 3) {
            return -1;
        }
        int tens = Math.floorDiv(what, 10);
        int units = Math.floorMod(what, 10);
        boolean asked = tens == 0 && units <= 3 || tens >= 1 && tens <= 3 && units <= 5;
        if (lane < 0 || lane > 2 || n < 0 || n > 20 || !asked) {
            return -2;
        }
        if (told.isEmpty()) {
            return -3;
        }
        List<Integer> row = taken(k, lane, i, n);
        if (row == null) {
            return whyNotTaken();
        }
        State s = new State(told, row);
        if (what == 1) {
            return s.firstWrong < 0 ? -9 : s.firstWrong;
        }
        if (s.firstWrong >= 0) {
            return -100 - s.firstWrong;
        }
        if (tens == 0) {
            return what == 0 ? setOf(s.mended()) : what == 2 ? s.firstAllMended : s.home();
        }
        if (!person(units)) {
            return -9;
        }
        return tens == 1 ? s.has.get(units) : setOf(tens == 2 ? s.knows.get(units) : s.left.get(units));
    }

    int fewest(int set, int k) {
        if (told.isEmpty()) {
            return -3;
        }
        if (k < -1 || k > 2 || set < 0 || set > (1 << told.size()) - 1) {
            return -2;
        }
        for (int n = 0; n <= 3; n++) {
            List<Integer> row = firstRow(n, new ArrayList<>(), scenesOf(set));
            if (row != null) {
                return k == -1 ? n : k < n ? 10 * row.get(2 * k) + row.get(2 * k + 1) : -9;
            }
        }
        return -9;
    }

    private List<Integer> firstRow(int more, List<Integer> row, Set<Integer> set) {
        if (more == 0) {
            State s = new State(told, row);
            return s.firstWrong < 0 && s.mended().containsAll(set) ? row : null;
        }
        for (int a = 0; a < told.size(); a++) {
            for (int b = a + 1; b < told.size(); b++) {
                List<Integer> longer = new ArrayList<>(row);
                longer.add(a);
                longer.add(b);
                List<Integer> found = firstRow(more - 1, longer, set);
                if (found != null) {
                    return found;
                }
            }
        }
        return null;
    }

    int match(int p) {
        if (p < -1) {
            return -1;
        }
        if (told.isEmpty()) {
            return -3;
        }
        List<List<Integer>> all = new ArrayList<>();
        permute(new ArrayList<>(), all);
        int most = -1;
        List<Integer> best = null;
        for (List<Integer> gets : all) {
            int mended = 0;
            for (int q = 0; q < told.size(); q++) {
                Set<Integer> knows = scenesOf(told.get(q).scenes() | told.get(gets.get(q)).scenes());
                if (told.get(q).wanted() == 6 || knows.contains(told.get(q).wanted())) {
                    mended++;
                }
            }
            if (mended > most) {
                most = mended;
                best = gets;
            }
        }
        return p == -1 ? most : person(p) ? best.get(p) : -9;
    }

    private void permute(List<Integer> begun, List<List<Integer>> all) {
        if (begun.size() == told.size()) {
            all.add(begun);
        }
        for (int c = 0; c < told.size(); c++) {
            if (!begun.contains(c)) {
                List<Integer> longer = new ArrayList<>(begun);
                longer.add(c);
                permute(longer, all);
            }
        }
    }

    int help(int p) {
        if (!person(p)) {
            return -1;
        }
        int count = 0;
        for (Youth y : told) {
            boolean there = scenesOf(told.get(p).scenes()).contains(y.wanted());
            if (there && !scenesOf(y.scenes()).contains(y.wanted())) {
                count++;
            }
        }
        return count;
    }

    int reading(int p, int scene, boolean knew) {
        if (!person(p) || scene < 0 || scene > 5) {
            return -1;
        }
        if (readings.size() == 8) {
            return -4;
        }
        readings.add(new Reading(p, scene, knew));
        return readings.size() - 1;
    }

    int back(int k) {
        if (k < 0 || k > readings.size()) {
            return -2;
        }
        for (int j = 0; j < k; j++) {
            readings.remove(readings.size() - 1);
        }
        return readings.size();
    }

    private boolean isSo(int p, Youth other, List<Integer> row) {
        List<Youth> changed = new ArrayList<>(told);
        changed.set(p, other);
        State s = new State(changed, row);
        for (Reading r : readings) {
            if (s.knows.get(r.p()).contains(r.scene()) != r.knew()) {
                return false;
            }
        }
        return s.firstWrong < 0;
    }

    /** As told(): -1000, when it has an answer of its own. */
    private int askRead(int p, int k, int lane, int n, int which) {
        fault = 0;
        if (!person(p) || k < 0 || k > 3) {
            return -1;
        }
        return lane < 0 || lane > 2 || n < 0 || n > 20 || which < 0 || which > 1 ? -2 : -1000;
    }

    int told(int p, int k, int lane, int i, int n, int which) {
        int refusal = askRead(p, k, lane, n, which);
        if (refusal != -1000) {
            return refusal;
        }
        List<Integer> row = taken(k, lane, i, n);
        if (row == null) {
            return whyNotTaken();
        }
        Youth y = told.get(p);
        TreeSet<Integer> sets = new TreeSet<>();
        for (int s = 0; s <= 63; s++) {
            if (isSo(p, new Youth(y.kind(), s, y.wanted(), y.wear()), row)) {
                sets.add(s);
            }
        }
        return which == 0 ? sets.size() : sets.isEmpty() ? -9 : sets.first();
    }

    int kinds(int p, int k, int lane, int i, int n) {
        int refusal = askRead(p, k, lane, n, 0);
        if (refusal != -1000) {
            return refusal;
        }
        List<Integer> row = taken(k, lane, i, n);
        if (row == null) {
            return whyNotTaken();
        }
        Youth y = told.get(p);
        Set<Integer> kinds = new HashSet<>();
        for (int kind = 0; kind <= 2; kind++) {
            if (isSo(p, new Youth(kind, y.scenes(), y.wanted(), y.wear()), row)) {
                kinds.add(kind);
            }
        }
        return setOf(kinds);
    }

    int wears(int p, int k, int lane, int i, int n) {
        int refusal = askRead(p, k, lane, n, 0);
        if (refusal != -1000) {
            return refusal;
        }
        List<Integer> row = taken(k, lane, i, n);
        if (row == null) {
            return whyNotTaken();
        }
        Youth y = told.get(p);
        Set<Integer> wears = new HashSet<>();
        for (int wear = 1; wear <= 9; wear++) {
            if (isSo(p, new Youth(y.kind(), y.scenes(), y.wanted(), wear), row)) {
                wears.add(wear);
            }
        }
        return setOf(wears);
    }

    long odds(int p, int k, int lane, int i, int n, int which) {
        if (askRead(p, k, lane, n, which) != -1000) {
            return Long.MIN_VALUE;
        }
        List<Integer> row = taken(k, lane, i, n);
        State s = row == null ? null : new State(told, row);
        if (s == null || s.firstWrong >= 0) {
            return Long.MIN_VALUE;
        }
        // What does not bear on the wanted scene doubles both numbers, so that it is left out.
        List<Integer> memories = new ArrayList<>();
        for (int m : s.memories.get(p)) {
            if (m % 100 == told.get(p).wanted()) {
                memories.add(m);
            }
        }
        long upper = 0;
        long lower = 1L << memories.size();
        for (int remembered = 0; remembered < lower; remembered++) {
            if (told.get(p).wanted() == 6 || remembered != 0) {
                upper++;
            }
        }
        long both = java.math.BigInteger.valueOf(upper).gcd(java.math.BigInteger.valueOf(lower)).longValue();
        return (which == 0 ? upper : lower) / both;
    }

    int sheet(int k, int lane, int n) {
        fault = 0;
        if (k < 0 || k > 3) {
            return -1;
        }
        if (lane < 0 || lane > 2 || n > 60) {
            return -2;
        }
        if (n < 0) {
            return faulty(4);
        }
        rows[k] = new int[n];
        lanes[k] = lane;
        return 1;
    }

    int lose(int k) {
        if (k < 0 || k > 3) {
            return -1;
        }
        int had = rows[k] == null ? 0 : 1;
        rows[k] = null;
        return had;
    }

    private static int cut(int lane, int v) {
        int bits = lane == 0 ? 24 : lane == 1 ? 16 : 0;
        return v << bits >> bits;
    }

    int put(int k, int i, int v) {
        fault = 0;
        if (k < 0 || k > 3) {
            return -1;
        }
        if (rows[k] == null) {
            return faulty(1);
        }
        if (i < 0 || i >= rows[k].length) {
            return faulty(3);
        }
        rows[k][i] = cut(lanes[k], v);
        return 1;
    }

    long cell(int k, int i, int lane) {
        fault = 0;
        if (k < 0 || k > 3 || lane < 0 || lane > 2) {
            return Long.MIN_VALUE;
        }
        return cells(k, lane, i, 1) == 0 ? rows[k][i] : Long.MIN_VALUE;
    }

    int copy(int k, int i, int other, int j, int n) {
        fault = 0;
        if (k < 0 || k > 3 || other < 0 || other > 3) {
            return -1;
        }
        if (rows[k] == null || rows[other] == null) {
            return faulty(1);
        }
        if (lanes[k] != lanes[other]) {
            return faulty(2);
        }
        boolean fits = (long) i + n <= rows[k].length && (long) j + n <= rows[other].length;
        if (n < 0 || i < 0 || j < 0 || !fits) {
            return faulty(3);
        }
        int[] asTheyWere = rows[k].clone();
        for (int c = 0; c < n; c++) {
            rows[other][j + c] = asTheyWere[i + c];
        }
        return n;
    }

    private void leave(int... bodies) {
        for (int body : bodies) {
            trace = trace * 31 + body;
        }
    }

    int tell(int p) {
        if (!person(p)) {
            return -1;
        }
        int wear = told.get(p).wear();
        switch (told.get(p).kind()) {
            case 0: leave(1); return wear;
            case 1: leave(2, 1); return wear + 100;
            default: leave(3, 2, 1, 1); return wear + 100 + wear;
        }
    }

    int hand(int p) {
        if (!person(p)) {
            return -1;
        }
        boolean twin = told.get(p).kind() == 2;
        leave(twin ? 5 : 4);
        return twin ? 40 : p;
    }

    int as(int p, int kind) {
        fault = 0;
        if (!person(p)) {
            return -1;
        }
        if (kind < 0 || kind > 2) {
            return -2;
        }
        List<Set<Integer>> isOne = List.of(Set.of(0), Set.of(0, 1), Set.of(0, 1, 2));
        return isOne.get(told.get(p).kind()).contains(kind) ? 1 : faulty(2);
    }

    int many(int what) {
        return what == 0 ? told.size() : what == 1 ? readings.size() : -2;
    }
}
