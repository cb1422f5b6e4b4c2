/** The sentences on sheets and parts, part 5 and promises 16 to 26, that name a boundary. */
final class BoundsOfSheets {
    private static final int UNKNOWN = -1, OUTSIDE = -2;
    private static final int NULL = -11, CAST = -12, INDEX = -13, SIZE = -14;
    private static final int MIN = Filled.MIN, MAX = Filled.MAX;
    private static final int BEFORE = Filled.FAULT_BEFORE;
    private static final long LOST = Filled.LOST;
    private static final int[] NO_SHEETS = {-1, 4, 5, MIN, MAX};
    private static final int[] NO_LANES = {-1, 3, MIN, MAX};
    /** Behind four people: none of them. */
    private static final int[] NOBODY = {-1, 4, 5, 6, MIN, MAX};

    private BoundsOfSheets() { }

    private static void cellsAre(Due due, LentYouths x, int sheet, int... numbers) {
        for (int i = 0; i < numbers.length; i++) {
            due.is("cell " + i + " of " + sheet, x.cell(sheet, i, 2), numbers[i]);
        }
        due.is("cell behind all of " + sheet, x.cell(sheet, numbers.length, 2), LOST);
        due.is("its fault", x.fault(), 3);
    }

    @Holds(where = "Terms 5", says = "SHEETS 0 .. 3 have nothing (at first)")
    static void fourSheets(Due due) {
        LentYouths x = new LentYouths();
        for (int k = -1; k <= 4; k++) {
            boolean there = k >= 0 && k <= 3;
            due.is("lose " + k, x.lose(k), there ? 0 : UNKNOWN);
            due.is("put to " + k, x.put(k, 0, 1), there ? NULL : UNKNOWN);
            due.is("sheet " + k, x.sheet(k, 2, 1), there ? 1 : UNKNOWN);
            due.is("put to it", x.put(k, 0, k), there ? 1 : UNKNOWN);
        }
        for (int k = 0; k <= 3; k++) {
            due.is("each has its own row", x.cell(k, 0, 2), k);
        }
    }

    @Holds(where = "Terms 5", says = "or a row of 0 .. 60 numbers (0 at first) of a LANE")
    static void rowsOfNoughtToSixty(Due due) {
        for (int n = 0; n <= 60; n++) {
            LentYouths x = new LentYouths();
            x.sheet(3, n % 3, 60);
            for (int i = 0; i < 60; i++) {
                x.put(3, i, 7);
            }
            due.is("a row of " + n, x.sheet(3, 2, n), 1);
            cellsAre(due, x, 3, new int[n]);
            due.is("put behind it", x.put(3, n, 1), INDEX);
            due.is("put to its end", x.put(3, n - 1, 1), n == 0 ? INDEX : 1);
        }
        LentYouths x = new LentYouths();
        due.is("a row of 61", x.sheet(3, 2, 61), OUTSIDE);
        due.is("a row of -1", x.sheet(3, 2, -1), SIZE);
        due.is("neither is had", x.lose(3), 0);
    }

    @Holds(where = "Terms 5", says = "0 bytes, 1 shorts, 2 ints")
    static void lanes(Due due) {
        LentYouths x = new LentYouths();
        long[] most = {127, 32767, 2147483647};
        for (int lane = 0; lane < 3; lane++) {
            x.sheet(0, lane, 4);
            x.put(0, 0, (int) most[lane]);
            x.put(0, 1, (int) most[lane] + 1);
            x.put(0, 2, (int) -most[lane] - 1);
            x.put(0, 3, (int) -most[lane] - 2);
            due.is("the most of lane " + lane, x.cell(0, 0, lane), most[lane]);
            due.is("one more", x.cell(0, 1, lane), -most[lane] - 1);
            due.is("the least", x.cell(0, 2, lane), -most[lane] - 1);
            due.is("one less", x.cell(0, 3, lane), most[lane]);
        }
        due.is("lane 3", x.sheet(0, 3, 4), OUTSIDE);
    }

    @Holds(where = "Terms 5", says = "what comes to a cell of it is cut to its LANE (with its sign)")
    static void cutToLane(Due due) {
        LentYouths x = new LentYouths();
        int[] comes = {128, 255, 256, -129, -256, 32768, 65535, 65536, -32769, MIN, MAX, 0x12348081};
        int[] bytes = {-128, -1, 0, 127, 0, 0, -1, 0, -1, 0, -1, -127};
        int[] shorts = {128, 255, 256, -129, -256, -32768, -1, 0, 32767, 0, -1, -32639};
        for (int lane = 0; lane < 3; lane++) {
            x.sheet(lane, lane, comes.length);
        }
        for (int i = 0; i < comes.length; i++) {
            for (int lane = 0; lane < 3; lane++) {
                due.is("put " + comes[i], x.put(lane, i, comes[i]), 1);
            }
            due.is(comes[i] + " as a byte", x.cell(0, i, 0), bytes[i]);
            due.is(comes[i] + " as a short", x.cell(1, i, 1), shorts[i]);
            due.is(comes[i] + " as an int", x.cell(2, i, 2), comes[i]);
        }
        // A byte is cut ahead of what it is taken for: 256 and k is a k, 256 and 1 is person 1.
        x.sheet(0, 0, 13);
        String text = "k;c0061;c0061";
        for (int i = 0; i < 13; i++) {
            x.put(0, i, 256 + text.charAt(i));
        }
        due.is("a text that is cut", x.counter(0, 0, 0, 13), 2);
        x.put(0, 0, 256);
        x.put(0, 1, 257);
        due.is("a loan that is cut", x.loans(0, 0, 0, 1, 1), 0);
        due.is("ints are not cut", x.counter(2, 2, 0, 1), -100);
    }

    @Holds(where = "Terms 5", says = "TELLING of CHILDHOODS by bodies that leave their number in TRACE "
        + "(an int that wraps, 0 at first, becomes 31 times it and the number) as they begin")
    static void traceWraps(Due due) {
        LentYouths x = Due.at("k;c0001;t0001");
        due.is("at first", x.trace(), 0);
        long whole = 0;
        boolean wrapped = false;
        for (int round = 0; round < 60; round++) {
            x.hand(round % 2);
            whole = (31 * whole + 4 + round % 2) % (1L << 32);
            wrapped |= whole > MAX;
            due.is("behind " + (round + 1), x.trace(), whole > MAX ? whole - (1L << 32) : whole);
        }
        due.isTrue("it has wrapped", wrapped);
    }

    @Holds(where = "Terms 5", says = "CHILDHOOD (1): its WEAR")
    static void tellingOfAChildhood(Due due) {
        LentYouths x = Due.at("k;c0001;c0009");
        due.is("of wear 1", x.tell(0), 1);
        due.is("trace", x.trace(), 1);
        due.is("of wear 9", x.tell(1), 9);
        due.is("trace", x.trace(), 31 + 1);
    }

    @Holds(where = "Terms 5", says = "SAD (2): what CHILDHOOD's gives, and 100")
    static void tellingOfASadOne(Due due) {
        LentYouths x = Due.at("k;s0001;s0009");
        due.is("of wear 1", x.tell(0), 101);
        due.is("trace", x.trace(), 2 * 31 + 1);
        due.is("of wear 9", x.tell(1), 109);
        due.is("trace", x.trace(), ((2 * 31 + 1) * 31 + 2) * 31 + 1);
    }

    @Holds(where = "Terms 5", says = "TWIN (3): what SAD's gives, and what CHILDHOOD's gives (SAD's left out)")
    static void tellingOfATwin(Due due) {
        LentYouths x = Due.at("k;t0001;t0009");
        int once = ((3 * 31 + 2) * 31 + 1) * 31 + 1;
        due.is("of wear 1", x.tell(0), 102);
        due.is("trace", x.trace(), once);
        due.is("of wear 9", x.tell(1), 118);
        due.is("trace", x.trace(), once * 31 * 31 * 31 * 31 + once);
    }

    @Holds(where = "Terms 5", says = "HANDED out by a lent body (4): the CHILDHOOD's number; TWINS have "
        + "their own (5): 40")
    static void handedOut(Due due) {
        LentYouths x = Due.at("k;c0001;s0001;t0001;c0001;s0001;t0001");
        int[] hands = {0, 1, 40, 3, 4, 40};
        int[] bodies = {4, 4, 5, 4, 4, 5};
        int trace = 0;
        for (int p = 0; p < 6; p++) {
            due.is("hand " + p, x.hand(p), hands[p]);
            trace = 31 * trace + bodies[p];
            due.is("trace", x.trace(), trace);
        }
    }

    @Holds(where = "Promise 16", says = "A SHEET gets a new row: 1")
    static void newRow(Due due) {
        LentYouths x = new LentYouths();
        Due.row(x, 0, 5, 6, 7);
        due.is("a shorter one", x.sheet(0, 2, 2), 1);
        cellsAre(due, x, 0, 0, 0);
        x.put(0, 1, 9);
        due.is("the same one", x.sheet(0, 2, 2), 1);
        cellsAre(due, x, 0, 0, 0);
        due.is("a longer one", x.sheet(0, 2, 3), 1);
        cellsAre(due, x, 0, 0, 0, 0);
        due.is("one of another lane", x.sheet(0, 0, 1), 1);
        due.is("of the lane before", x.cell(0, 0, 2), LOST);
        due.is("its fault", x.fault(), 2);
        due.is("one of none", x.sheet(0, 1, 0), 1);
        due.is("no fault", x.fault(), 0);
        due.is("that is had", x.lose(0), 1);
    }

    @Holds(where = "Promise 16", says = "UNKNOWN")
    static void rowOfNoSheet(Due due) {
        for (int k : NO_SHEETS) {
            Filled.changesNothing(due, "sheet " + k, x -> x.sheet(k, 2, 3), UNKNOWN, 0);
        }
    }

    @Holds(where = "Promise 16", says = "OUTSIDE: lane, n above 60")
    static void rowOutside(Due due) {
        for (int lane : NO_LANES) {
            Filled.changesNothing(due, "lane " + lane, x -> x.sheet(2, lane, 3), OUTSIDE, 0);
            Filled.changesNothing(due, "lane " + lane + ", below", x -> x.sheet(2, lane, -1), OUTSIDE, 0);
        }
        for (int n : new int[] {61, 62, 120, MAX}) {
            Filled.changesNothing(due, "n " + n, x -> x.sheet(3, 2, n), OUTSIDE, 0);
        }
        due.is("n 60", new LentYouths().sheet(3, 2, 60), 1);
    }

    @Holds(where = "Promise 16", says = "SIZE")
    static void rowBelowNought(Due due) {
        for (int n : new int[] {-1, -2, -60, MIN}) {
            Filled.changesNothing(due, "n " + n, x -> x.sheet(2, 2, n), SIZE, 4);
            Filled.changesNothing(due, "n " + n + " for nothing", x -> x.sheet(3, 2, n), SIZE, 4);
        }
    }

    @Holds(where = "Promise 17", says = "A SHEET has nothing: 1; 0: it had nothing")
    static void losing(Due due) {
        LentYouths x = new LentYouths();
        for (int k = 0; k < 4; k++) {
            due.is("at first", x.lose(k), 0);
            x.sheet(k, k % 3, k == 0 ? 0 : 60);
            due.is("with a row", x.lose(k), 1);
            due.is("put to it", x.put(k, 0, 0), NULL);
            due.is("again", x.lose(k), 0);
            due.is("fault() is of the put", x.fault(), 1);
        }
        LentYouths y = Filled.make();
        due.is("sheet 1", y.lose(1), 1);
        due.is("another stays", y.cell(2, 7, 2), 4);
        y.sheet(1, 1, 3);
        due.is("what was lost does not come again", y.cell(1, 2, 1), 0);
    }

    @Holds(where = "Promise 17", says = "UNKNOWN")
    static void losingNoSheet(Due due) {
        for (int k : NO_SHEETS) {
            Filled.changesNothing(due, "lose " + k, x -> x.lose(k), UNKNOWN, BEFORE);
        }
    }

    @Holds(where = "Promise 18", says = "Cell i of a SHEET becomes v: 1")
    static void putting(Due due) {
        LentYouths x = new LentYouths();
        x.sheet(0, 2, 60);
        due.is("the first", x.put(0, 0, MIN), 1);
        due.is("the last", x.put(0, 59, MAX), 1);
        due.is("one between", x.put(0, 30, -1), 1);
        due.is("once more", x.put(0, 30, 8), 1);
        int[] cells = new int[60];
        cells[0] = MIN;
        cells[30] = 8;
        cells[59] = MAX;
        cellsAre(due, x, 0, cells);
    }

    @Holds(where = "Promise 18", says = "UNKNOWN")
    static void puttingToNoSheet(Due due) {
        for (int k : NO_SHEETS) {
            Filled.changesNothing(due, "put to " + k, x -> x.put(k, 0, 5), UNKNOWN, 0);
            Filled.changesNothing(due, "put to " + k + " beyond", x -> x.put(k, -1, 5), UNKNOWN, 0);
        }
    }

    @Holds(where = "Promise 18", says = "NULL")
    static void puttingToNothing(Due due) {
        for (int i : new int[] {-1, 0, 59, 60, MIN, MAX}) {
            Filled.changesNothing(due, "put to nothing, " + i, x -> x.put(3, i, 5), NULL, 1);
        }
    }

    @Holds(where = "Promise 18", says = "INDEX")
    static void puttingBeyond(Due due) {
        for (int i : new int[] {-1, 8, 9, 60, MIN, MAX}) {
            Filled.changesNothing(due, "put to " + i, x -> x.put(2, i, 5), INDEX, 3);
        }
        LentYouths x = Filled.make();
        x.sheet(3, 0, 0);
        due.is("put to a row of none", x.put(3, 0, 5), INDEX);
        due.is("put to the last", x.put(2, 7, 5), 1);
        due.is("fault()", x.fault(), 0);
    }

    @Holds(where = "Promise 19", says = "Cell i of what a SHEET has, taken as a row of a LANE")
    static void cells(Due due) {
        LentYouths x = new LentYouths();
        for (int lane = 0; lane < 3; lane++) {
            x.sheet(lane, lane, 60);
            x.put(lane, 0, -1);
            x.put(lane, 59, -2);
            due.is("the first of lane " + lane, x.cell(lane, 0, lane), -1);
            due.is("the last of lane " + lane, x.cell(lane, 59, lane), -2);
            due.is("one between", x.cell(lane, 30, lane), 0);
            due.is("fault()", x.fault(), 0);
        }
        x.put(2, 0, MIN);
        due.is("the least int is not LOST", x.cell(2, 0, 2), MIN);
    }

    @Holds(where = "Promise 19", says = "LOST: UNKNOWN")
    static void cellsOfNoSheet(Due due) {
        for (int k : NO_SHEETS) {
            Filled.changesNothing(due, "cell of " + k, x -> x.cell(k, 0, 2), LOST, 0);
            Filled.changesNothing(due, "cell of " + k + " beyond", x -> x.cell(k, -1, 3), LOST, 0);
        }
    }

    @Holds(where = "Promise 19", says = "OUTSIDE: lane")
    static void cellsOfNoLane(Due due) {
        for (int lane : NO_LANES) {
            Filled.changesNothing(due, "cell of lane " + lane, x -> x.cell(2, 0, lane), LOST, 0);
            Filled.changesNothing(due, "cell of lane " + lane + ", nothing", x -> x.cell(3, 0, lane), LOST, 0);
        }
    }

    @Holds(where = "Promise 19", says = "FAULTS CAST (nothing is no CAST)")
    static void cellsOfAnotherLane(Due due) {
        for (int lane = 0; lane < 3; lane++) {
            int as = lane;
            for (int k = 0; k < 3; k++) {
                int sheet = k;
                if (k != lane) {
                    Filled.changesNothing(due, k + " as " + lane, x -> x.cell(sheet, 0, as), LOST, 2);
                    Filled.changesNothing(due, k + " as " + lane + ", beyond", x -> x.cell(sheet, 99, as), LOST, 2);
                }
            }
        }
        LentYouths x = Filled.make();
        x.lose(1);
        for (int lane = 0; lane < 3; lane++) {
            due.is("lost shorts as " + lane, x.cell(1, 0, lane), LOST);
            due.is("their fault", x.fault(), 1);
        }
    }

    @Holds(where = "Promise 19", says = "NULL")
    static void cellsOfNothing(Due due) {
        for (int lane = 0; lane < 3; lane++) {
            int as = lane;
            Filled.changesNothing(due, "nothing as " + lane, x -> x.cell(3, 0, as), LOST, 1);
            Filled.changesNothing(due, "nothing beyond as " + lane, x -> x.cell(3, -1, as), LOST, 1);
        }
    }

    @Holds(where = "Promise 19", says = "INDEX")
    static void cellsBeyond(Due due) {
        for (int i : new int[] {-1, 8, 9, 60, MIN, MAX}) {
            Filled.changesNothing(due, "cell " + i, x -> x.cell(2, i, 2), LOST, 3);
        }
        LentYouths x = Filled.make();
        due.is("the last", x.cell(2, 7, 2), 4);
        due.is("fault()", x.fault(), 0);
    }

    @Holds(where = "Promise 20", says = "n cells of a SHEET from i on go to another one (perhaps the same) "
        + "from j on, as they were: n")
    static void copying(Due due) {
        LentYouths x = new LentYouths();
        Due.row(x, 0, 1, 2, 3, 4, 5);
        Due.row(x, 1, 6, 7, 8);
        due.is("two to the other end", x.copy(1, 1, 0, 3, 2), 2);
        cellsAre(due, x, 0, 1, 2, 3, 7, 8);
        cellsAre(due, x, 1, 6, 7, 8);
        due.is("four up within one", x.copy(0, 0, 0, 1, 4), 4);
        cellsAre(due, x, 0, 1, 1, 2, 3, 7);
        due.is("four down within one", x.copy(0, 1, 0, 0, 4), 4);
        cellsAre(due, x, 0, 1, 2, 3, 7, 7);
        due.is("all to themselves", x.copy(0, 0, 0, 0, 5), 5);
        cellsAre(due, x, 0, 1, 2, 3, 7, 7);
        due.is("none at both ends", x.copy(0, 5, 1, 3, 0), 0);
        due.is("none at both beginnings", x.copy(0, 0, 1, 0, 0), 0);
        due.is("the whole other one", x.copy(1, 0, 0, 1, 3), 3);
        cellsAre(due, x, 0, 1, 6, 7, 8, 7);
        due.is("one", x.copy(0, 4, 1, 0, 1), 1);
        cellsAre(due, x, 1, 7, 7, 8);
        x.sheet(2, 0, 0);
        x.sheet(3, 0, 0);
        due.is("none of rows of none", x.copy(2, 0, 3, 0, 0), 0);
        due.is("fault()", x.fault(), 0);
    }

    @Holds(where = "Promise 20", says = "UNKNOWN")
    static void copyingNoSheet(Due due) {
        for (int k : NO_SHEETS) {
            Filled.changesNothing(due, "copy of " + k, x -> x.copy(k, 0, 2, 0, 1), UNKNOWN, 0);
            Filled.changesNothing(due, "copy to " + k, x -> x.copy(2, 0, k, 0, 1), UNKNOWN, 0);
            Filled.changesNothing(due, "copy of nothing to " + k, x -> x.copy(3, 0, k, -1, -1), UNKNOWN, 0);
        }
    }

    @Holds(where = "Promise 20", says = "FAULTS NULL (the first, the other)")
    static void copyingNothing(Due due) {
        for (int k = 0; k < 4; k++) {
            int other = k;
            Filled.changesNothing(due, "copy of nothing to " + k, x -> x.copy(3, 0, other, 0, 0), NULL, 1);
            Filled.changesNothing(due, "copy to nothing of " + k, x -> x.copy(other, -1, 3, -1, -1), NULL, 1);
        }
        // What a sheet had does not matter any more.
        LentYouths x = Filled.make();
        x.lose(1);
        due.is("of the lane before", x.copy(1, 0, 2, 0, 0), NULL);
        due.is("to the lane before", x.copy(2, 0, 1, 0, 0), NULL);
    }

    @Holds(where = "Promise 20", says = "CAST (unlike LANES)")
    static void copyingUnlikeLanes(Due due) {
        for (int k = 0; k < 3; k++) {
            for (int other = 0; other < 3; other++) {
                int from = k;
                int to = other;
                if (k != other) {
                    Filled.changesNothing(due, k + " to " + other, x -> x.copy(from, 0, to, 0, 1), CAST, 2);
                    Filled.changesNothing(due, k + " to " + other + ", none",
                        x -> x.copy(from, 0, to, 0, 0), CAST, 2);
                    Filled.changesNothing(due, k + " to " + other + ", beyond",
                        x -> x.copy(from, -1, to, 99, -1), CAST, 2);
                }
            }
        }
    }

    @Holds(where = "Promise 20", says = "INDEX: i, j, n below 0 or beyond")
    static void copyingBeyond(Due due) {
        int[][] beyond = {{-1, 0, 1}, {0, -1, 1}, {0, 0, -1}, {-1, 0, 0}, {0, -1, 0}, {9, 0, 0}, {0, 9, 0},
            {8, 0, 1}, {0, 8, 1}, {2, 0, 7}, {0, 2, 7}, {0, 0, 9}, {1, 1, -1}, {MAX, 0, 1}, {0, MAX, 1},
            {1, 0, MAX}, {0, 1, MAX}, {MIN, 0, 0}, {0, MIN, 0}, {0, 0, MIN}, {MAX, MAX, MAX}, {8, 8, MIN}};
        for (int[] b : beyond) {
            Filled.changesNothing(due, "copy " + b[0] + ", " + b[1] + ", " + b[2],
                x -> x.copy(2, b[0], 2, b[1], b[2]), INDEX, 3);
        }
        LentYouths x = Filled.make();
        Due.row(x, 3, 9, 9, 9);
        due.is("more than the other one has", x.copy(2, 0, 3, 0, 4), INDEX);
        due.is("more than there are", x.copy(3, 0, 2, 0, 4), INDEX);
        cellsAre(due, x, 3, 9, 9, 9);
        due.is("as many as there are", x.copy(3, 0, 2, 5, 3), 3);
        due.is("fault()", x.fault(), 0);
    }

    @Holds(where = "Promise 21", says = "TELLING of a CHILDHOOD")
    static void telling(Due due) {
        LentYouths x = Filled.make();
        int[] tells = {1, 101, 104, 1};
        int[][] bodies = {{1}, {2, 1}, {3, 2, 1, 1}, {1}};
        int trace = x.trace();
        for (int p = 0; p < 4; p++) {
            due.is("tell " + p, x.tell(p), tells[p]);
            for (int body : bodies[p]) {
                trace = 31 * trace + body;
            }
            due.is("trace", x.trace(), trace);
        }
        due.is("fault() is as before", x.fault(), BEFORE);
    }

    @Holds(where = "Promise 21", says = "UNKNOWN")
    static void tellingOfNobody(Due due) {
        for (int p : NOBODY) {
            Filled.changesNothing(due, "tell " + p, x -> x.tell(p), UNKNOWN, BEFORE);
        }
        due.is("without a counter", new LentYouths().tell(0), UNKNOWN);
    }

    @Holds(where = "Promise 22", says = "How it is HANDED out")
    static void handing(Due due) {
        LentYouths x = Filled.make();
        int[] hands = {0, 1, 40, 3};
        int trace = x.trace();
        for (int p = 0; p < 4; p++) {
            due.is("hand " + p, x.hand(p), hands[p]);
            trace = 31 * trace + (p == 2 ? 5 : 4);
            due.is("trace", x.trace(), trace);
        }
        due.is("fault() is as before", x.fault(), BEFORE);
    }

    @Holds(where = "Promise 22", says = "UNKNOWN")
    static void handingOfNobody(Due due) {
        for (int p : NOBODY) {
            Filled.changesNothing(due, "hand " + p, x -> x.hand(p), UNKNOWN, BEFORE);
        }
        due.is("without a counter", new LentYouths().hand(0), UNKNOWN);
    }

    @Holds(where = "Promise 23", says = "A CHILDHOOD, taken as one of a kind: 1")
    static void takenAs(Due due) {
        LentYouths x = Due.at("k;c0001;s0001;t0001");
        due.is("a childhood as one", x.as(0, 0), 1);
        due.is("a sad one as a childhood", x.as(1, 0), 1);
        due.is("a sad one as one", x.as(1, 1), 1);
        due.is("a twin as a childhood", x.as(2, 0), 1);
        due.is("a twin as a sad one", x.as(2, 1), 1);
        due.is("a twin as one", x.as(2, 2), 1);
        due.is("fault()", x.fault(), 0);
        due.is("no body has begun", x.trace(), 0);
    }

    @Holds(where = "Promise 23", says = "UNKNOWN")
    static void takenAsOfNobody(Due due) {
        for (int p : NOBODY) {
            for (int kind = -1; kind <= 3; kind++) {
                int as = kind;
                Filled.changesNothing(due, p + " as " + kind, x -> x.as(p, as), UNKNOWN, 0);
            }
        }
    }

    @Holds(where = "Promise 23", says = "OUTSIDE")
    static void takenAsNoKind(Due due) {
        for (int kind : new int[] {-1, 3, MIN, MAX}) {
            for (int p = 0; p < 4; p++) {
                int childhood = p;
                Filled.changesNothing(due, p + " as " + kind, x -> x.as(childhood, kind), OUTSIDE, 0);
            }
        }
    }

    @Holds(where = "Promise 23", says = "CAST: it is none")
    static void takenAsNone(Due due) {
        Filled.changesNothing(due, "a childhood as a sad one", x -> x.as(0, 1), CAST, 2);
        Filled.changesNothing(due, "a childhood as a twin", x -> x.as(0, 2), CAST, 2);
        Filled.changesNothing(due, "a sad one as a twin", x -> x.as(1, 2), CAST, 2);
        LentYouths x = Filled.make();
        due.is("the twin as a twin", x.as(2, 2), 1);
    }

    @Holds(where = "Promise 24", says = "TRACE")
    static void tracing(Due due) {
        LentYouths x = new LentYouths();
        due.is("at first", x.trace(), 0);
        x.tell(0);
        x.hand(0);
        due.is("behind refused ones", x.trace(), 0);
        Due.counter(x, "k;c0001;t0001");
        due.is("behind a counter", x.trace(), 0);
        x.tell(1);
        x.trace();
        due.is("behind a twin's", x.trace(), ((3 * 31 + 2) * 31 + 1) * 31 + 1);
        due.is("asked again", x.trace(), ((3 * 31 + 2) * 31 + 1) * 31 + 1);
    }

    @Holds(where = "Promise 25", says = "The FAULT of the latest call that names one")
    static void theLatest(Due due) {
        LentYouths x = Filled.make();
        due.is("3", x.fault(), 3);
        due.is("asked again", x.fault(), 3);
        Filled.Call[] nameNone = {y -> y.ofPerson(0, 0), y -> y.live(0, 3), y -> y.want(0, 1), y -> y.fewest(1, 0),
            y -> y.match(0), y -> y.help(0), y -> y.reading(0, 0, true), y -> y.back(1), y -> y.lose(3),
            y -> y.tell(0), y -> y.hand(0), y -> y.trace(), y -> y.many(0)};
        for (int k = 0; k < nameNone.length; k++) {
            nameNone[k].on(x);
            due.is("behind call " + k + " that names none", x.fault(), 3);
        }
        Filled.Call[] nameOne = {
            y -> y.counter(3, 0, 0, 0), y -> y.counter(2, 0, 0, 0), y -> y.counter(2, 2, -1, 0),
            y -> y.counter(2, 2, 0, -1), y -> y.loans(3, 0, 0, 0, 0), y -> y.told(0, 2, 0, 0, 0, 0),
            y -> y.kinds(0, 2, 2, -1, 0), y -> y.wears(0, 3, 2, 0, 0), y -> y.odds(0, 2, 1, 0, 0, 0),
            y -> y.sheet(0, 0, -1), y -> y.put(3, 0, 0), y -> y.cell(2, 99, 2), y -> y.copy(0, 0, 1, 0, 0),
            y -> y.as(0, 1)};
        int[] faults = {1, 2, 3, 4, 1, 2, 3, 1, 2, 4, 1, 3, 2, 2};
        for (int k = 0; k < nameOne.length; k++) {
            nameOne[k].on(x);
            due.is("behind call " + k + " that names one", x.fault(), faults[k]);
        }
    }

    @Holds(where = "Promise 25", says = "0: it came to none, or was refused")
    static void noneOrRefused(Due due) {
        Filled.Call[] cameToNone = {y -> y.counter(0, 0, 0, 13), y -> y.counter(0, 0, 0, 12),
            y -> y.loans(2, 2, 0, 1, 0), y -> y.loans(2, 2, 0, 3, 0), y -> y.told(0, 2, 2, 0, 3, 0),
            y -> y.kinds(0, 2, 2, 0, 1), y -> y.wears(0, 2, 2, 0, 1), y -> y.odds(0, 2, 2, 0, 1, 0),
            y -> y.odds(0, 2, 2, 0, 3, 0), y -> y.sheet(0, 0, 0), y -> y.put(2, 0, 0), y -> y.cell(2, 0, 2),
            y -> y.copy(2, 0, 2, 0, 1), y -> y.as(0, 0)};
        Filled.Call[] refused = {
            y -> y.counter(4, 0, 0, 0), y -> y.counter(0, 3, 0, 0), y -> y.loans(4, 0, 0, 0, 0),
            y -> y.loans(2, 2, 0, 1, 4), y -> y.loans(2, 2, 0, 4, 0), y -> y.told(4, 0, 0, 0, 0, 0),
            y -> y.told(0, 2, 2, 0, 4, 0), y -> y.kinds(0, 4, 0, 0, 0), y -> y.wears(0, 0, 3, 0, 0),
            y -> y.odds(0, 0, 0, 0, 0, 2), y -> y.sheet(4, 0, -1), y -> y.sheet(0, 0, 61), y -> y.put(4, 0, 0),
            y -> y.cell(4, 0, 0), y -> y.cell(0, 0, 3), y -> y.copy(4, 0, 0, 0, 0), y -> y.copy(0, 0, 4, 0, 0),
            y -> y.as(4, 0), y -> y.as(0, 3)};
        faultIsNought(due, "that came to none", cameToNone);
        faultIsNought(due, "that was refused", refused);
        LentYouths x = new LentYouths();
        x.put(0, 0, 0);
        x.loans(0, 0, 0, 0, 0);
        due.is("fault() behind loans without a counter", x.fault(), 0);
    }

    private static void faultIsNought(Due due, String which, Filled.Call... calls) {
        for (int k = 0; k < calls.length; k++) {
            LentYouths x = Filled.make();
            due.is("fault() ahead of call " + k, x.fault(), BEFORE);
            calls[k].on(x);
            due.is("fault() behind call " + k + " " + which, x.fault(), 0);
        }
    }

    @Holds(where = "Promise 25", says = "0 ahead of any")
    static void aheadOfAny(Due due) {
        LentYouths x = new LentYouths();
        due.is("at first", x.fault(), 0);
        x.help(0);
        x.lose(9);
        x.match(0);
        due.is("behind calls that name none", x.fault(), 0);
    }

    @Holds(where = "Promise 26", says = "How many: 0 PEOPLE, 1 READINGS (0 all without a COUNTER)")
    static void howMany(Due due) {
        LentYouths x = new LentYouths();
        due.is("people without a counter", x.many(0), 0);
        due.is("readings without a counter", x.many(1), 0);
        x.reading(0, 0, true);
        due.is("readings behind a refused one", x.many(1), 0);
        for (int people = 2; people <= 6; people++) {
            Due.counter(x, "k" + ";c0001".repeat(people));
            due.is("people", x.many(0), people);
            due.is("readings", x.many(1), 0);
            for (int k = 1; k <= 8; k++) {
                x.reading(people - 1, 5, k % 2 == 0);
                due.is("readings", x.many(1), k);
            }
            x.reading(0, 0, true);
            due.is("readings behind a ninth", x.many(1), 8);
        }
        Due.counter(x, "k;c0001");
        due.is("people behind a text that is not taken", x.many(0), 6);
        due.is("readings, too", x.many(1), 8);
    }

    @Holds(where = "Promise 26", says = "OUTSIDE")
    static void howManyOfNothingElse(Due due) {
        for (int what : new int[] {-1, 2, 3, MIN, MAX}) {
            due.is("without a counter, " + what, new LentYouths().many(what), OUTSIDE);
            Filled.changesNothing(due, "many " + what, x -> x.many(what), OUTSIDE, BEFORE);
        }
    }
}
