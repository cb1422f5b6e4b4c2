/** An object in which much is told, so that whatever a call changes can be seen. */
final class Filled {
    static final String FOUR = "k;c0311;s0431;t0802;c4861";
    static final int MIN = Integer.MIN_VALUE, MAX = Integer.MAX_VALUE;
    static final long LOST = Long.MIN_VALUE;
    /** What the latest fault is ahead of a call that is looked at. */
    static final int FAULT_BEFORE = 3;

    interface Call {
        long on(LentYouths x);
    }

    /** The calls of what people knew, that are all asked alike. */
    interface Asked {
        long on(LentYouths x, int p, int sheet, int lane, int i, int n);
    }

    private Filled() { }

    /**
     * Four people, two readings; sheet 0: 13 bytes, a text of two; sheet 1: 3 shorts; sheet 2: 8 ints,
     * two loans that can be, a wrong one, one of no person; sheet 3: nothing.
     */
    static LentYouths make() {
        LentYouths x = Due.at(FOUR);
        x.reading(0, 2, true);
        x.reading(0, 4, false);
        x.tell(2);
        Due.text(x, 0, "k;c0001;s6369");
        x.sheet(1, 1, 3);
        x.put(1, 2, -300);
        Due.row(x, 2, 0, 1, 1, 2, 3, 3, 0, 4);
        x.lose(3);
        x.put(0, 13, 0);
        return x;
    }

    /** All that can be asked of such an object without changing it. */
    private static String seen(LentYouths x) {
        StringBuilder all = new StringBuilder();
        all.append(x.many(0)).append(' ').append(x.many(1)).append(' ').append(x.trace());
        for (int p = 0; p < 5; p++) {
            for (int what = 0; what < 4; what++) {
                all.append(' ').append(x.ofPerson(p, what));
            }
        }
        int[] cells = {13, 3, 8, 0};
        for (int k = 0; k < 4; k++) {
            for (int i = 0; i <= cells[k]; i++) {
                all.append(' ').append(x.cell(k, i, k % 3));
            }
            all.append(" fault ").append(x.fault());
        }
        all.append(' ').append(x.told(1, 2, 2, 0, 1, 0)).append(' ').append(x.told(1, 2, 2, 0, 1, 1));
        return all.toString();
    }

    /** A call that is refused, or comes to a fault: its answer, fault() behind it, and no change. */
    static void changesNothing(Due due, String name, Call call, long answer, int faultBehind) {
        LentYouths x = make();
        due.is("fault() ahead of " + name, x.fault(), FAULT_BEFORE);
        due.is(name, call.on(x), answer);
        due.is("fault() behind " + name, x.fault(), faultBehind);
        String before = seen(make());
        String behind = seen(x);
        due.isTrue(name + " changes nothing: " + before + " / " + behind, behind.equals(before));
    }
}
