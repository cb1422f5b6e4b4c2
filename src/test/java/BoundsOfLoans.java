/** The sentences on loans, part 2 and promise 6, that name a boundary. */
final class BoundsOfLoans {
    private static final int UNKNOWN = -1, OUTSIDE = -2, STATE = -3, NONE = -9;
    private static final int NULL = -11, CAST = -12, INDEX = -13;
    private static final int MIN = Filled.MIN, MAX = Filled.MAX;
    private static final int MENDED = 0, FIRST_WRONG = 1, ALL_MENDED = 2, HOME = 3;
    private static final int HAS = 10, KNOWS = 20, LEFT = 30;

    private BoundsOfLoans() { }

    /** The same pair n times, on sheet 0. */
    private static void again(LentYouths x, int a, int b, int n) {
        int[] row = new int[2 * n];
        for (int j = 0; j < n; j++) {
            row[2 * j] = a;
            row[2 * j + 1] = b;
        }
        Due.row(x, 0, row);
    }

    /** The first n loans of sheet 0. */
    private static int ask(LentYouths x, int n, int what) {
        return x.loans(0, 2, 0, n, what);
    }

    @Holds(where = "Terms 2", says = "LOANS told: a row of pairs (PERSON, PERSON), one behind another")
    static void oneBehindAnother(Due due) {
        LentYouths x = Due.at("k;c0169;c0269;c0469");
        int[][] rows = {{0, 1, 1, 2}, {1, 0, 2, 1}, {1, 2, 0, 1}, {2, 1, 1, 0}};
        int[][] has = {{1, 2, 0}, {1, 2, 0}, {2, 0, 1}, {2, 0, 1}};
        for (int k = 0; k < rows.length; k++) {
            Due.row(x, 0, rows[k]);
            for (int p = 0; p < 3; p++) {
                due.is("row " + k + ", who " + p + " has", ask(x, 2, HAS + p), has[k][p]);
            }
        }
        Due.row(x, 0);
        due.is("a row of no pairs", ask(x, 0, HAS), 0);
    }

    @Holds(where = "Terms 2", says = "at first each has their own CHILDHOOD and KNOWS its SCENES")
    static void atFirst(Due due) {
        LentYouths x = Due.at("k;c0001;c6301;c0101;c3201");
        int[] scenes = {0, 63, 1, 32};
        Due.row(x, 0);
        for (int p = 0; p < 4; p++) {
            due.is("has " + p, ask(x, 0, HAS + p), p);
            due.is("knows " + p, ask(x, 0, KNOWS + p), scenes[p]);
            due.is("left " + p, ask(x, 0, LEFT + p), scenes[p]);
        }
    }

    @Holds(where = "Terms 2", says = "By a LOAN both exchange the CHILDHOODS that they have then")
    static void bothExchange(Due due) {
        LentYouths x = Due.at("k;c6309;c6309;c6309");
        Due.row(x, 0, 0, 1, 1, 2, 2, 1, 1, 0);
        int[][] has = {{0, 1, 2}, {1, 0, 2}, {1, 2, 0}, {1, 0, 2}, {0, 1, 2}};
        for (int n = 0; n < has.length; n++) {
            for (int p = 0; p < 3; p++) {
                due.is("who " + p + " has behind " + n, ask(x, n, HAS + p), has[n][p]);
            }
        }
    }

    @Holds(where = "Terms 2", says = "of each of these one SCENE is WORN off (the least that it has yet), "
        + "if it was lent more often than it LASTS by now (with this LOAN)")
    static void wornOff(Due due) {
        for (int wear = 1; wear <= 9; wear++) {
            wornBehind(due, 'c', wear, wear);
            wornBehind(due, 's', wear, wear + 1);
            wornBehind(due, 't', wear, 2 * wear + 2);
        }
        LentYouths x = Due.at("k;c4261;c2161");
        again(x, 0, 1, 4);
        int[] of0 = {42, 42, 40, 32, 0};
        int[] of1 = {21, 21, 20, 16, 0};
        for (int n = 0; n <= 4; n++) {
            due.is("scenes 1, 3, 5 behind " + n, ask(x, n, LEFT), of0[n]);
            due.is("scenes 0, 2, 4 behind " + n, ask(x, n, LEFT + 1), of1[n]);
        }
    }

    /** The other childhood outlasts all loans that can be told. */
    private static void wornBehind(Due due, char letter, int wear, int lasts) {
        LentYouths x = Due.at("k;" + letter + "636" + wear + ";t6369");
        again(x, 1, 0, 20);
        String name = letter + " of wear " + wear + " behind ";
        due.is(name + lasts, ask(x, lasts, LEFT), 63);
        due.is("the other one", ask(x, lasts, LEFT + 1), 63);
        if (lasts + 1 <= 20) {
            due.is(name + (lasts + 1), ask(x, lasts + 1, LEFT), 62);
            due.is("the other one then", ask(x, lasts + 1, LEFT + 1), 63);
        }
        if (lasts + 2 <= 20) {
            due.is(name + (lasts + 2), ask(x, lasts + 2, LEFT), 60);
        }
    }

    @Holds(where = "Terms 2", says = "then both KNOW what is yet in that which they have now, too")
    static void bothKnow(Due due) {
        LentYouths x = Due.at("k;c0361;c0469;c0869");
        Due.row(x, 0, 0, 1, 1, 2);
        due.is("0 knows 1's, too", ask(x, 1, KNOWS), 7);
        due.is("1 knows 0's, too", ask(x, 1, KNOWS + 1), 7);
        due.is("2 has no part in it", ask(x, 1, KNOWS + 2), 8);
        // Childhood 0 is lent for the second time, and lasts for one loan.
        due.is("2 knows what is yet in 0's", ask(x, 2, KNOWS + 2), 10);
        due.is("1 knows 2's, too, and what is worn by now", ask(x, 2, KNOWS + 1), 15);
        due.is("0 knows what they knew", ask(x, 2, KNOWS), 7);
        x.live(0, 1);
        due.is("2 gets what is worn to nothing", ask(x, 2, KNOWS + 2), 8);
    }

    @Holds(where = "Terms 2", says = "FIRST WRONG: the first LOAN of a PERSON with themselves")
    static void withThemselves(Due due) {
        LentYouths x = Due.at("k;t6369;t6369;t6369");
        Due.row(x, 0, 0, 1, 1, 2, 2, 2, 0, 0);
        int[] firstWrong = {NONE, NONE, NONE, 2, 2};
        for (int n = 0; n <= 4; n++) {
            due.is("behind " + n, ask(x, n, FIRST_WRONG), firstWrong[n]);
        }
        due.is("the last alone", x.loans(0, 2, 6, 1, FIRST_WRONG), 0);
    }

    @Holds(where = "Terms 2", says = "or in which one of both CHILDHOODS has no SCENES (ahead of it)")
    static void withoutScenes(Due due) {
        LentYouths x = Due.at("k;c0161;c6369;c0069");
        Due.row(x, 0, 0, 1, 0, 1, 0, 1);
        due.is("the loan that wears the last scene off can be", ask(x, 2, FIRST_WRONG), NONE);
        due.is("none is left", ask(x, 2, LEFT), 0);
        due.is("the next one can't", ask(x, 3, FIRST_WRONG), 2);
        Due.row(x, 0, 2, 1);
        due.is("the first one's has none", ask(x, 1, FIRST_WRONG), 0);
        Due.row(x, 0, 1, 2);
        due.is("the second one's has none", ask(x, 1, FIRST_WRONG), 0);
        Due.row(x, 0, 0, 1, 0, 1, 0, 1);
        x.live(0, 2);
        due.is("one scene lasts for two loans", ask(x, 3, FIRST_WRONG), 2);
        x.live(0, 3);
        due.is("two scenes last for three", ask(x, 3, FIRST_WRONG), NONE);
        x.live(2, 32);
        Due.row(x, 0, 2, 1);
        due.is("with one scene it can be", ask(x, 1, FIRST_WRONG), NONE);
        // Behind two loans 2 has 0's childhood, of which nothing is left, and 0 has 1's.
        Due.counter(x, "k;c0161;c6369;c6369");
        Due.row(x, 0, 0, 1, 1, 2, 0, 1, 1, 2);
        due.is("0's own is worn to nothing, but not with 0", ask(x, 3, FIRST_WRONG), NONE);
        due.is("2's own is not, but 2 has 0's", ask(x, 4, FIRST_WRONG), 3);
    }

    @Holds(where = "Terms 2", says = "MENDED is who KNOWS the SCENE that they WANT")
    static void mendedIsWhoKnows(Due due) {
        LentYouths x = Due.at("k;c0161;c0109;c3259;c0209;c0059;c6311");
        Due.row(x, 0, 0, 3, 3, 0);
        due.is("by their own", ask(x, 0, MENDED), 0b100111);
        x.want(0, 1);
        due.is("0 wants what 3 has", ask(x, 0, MENDED), 0b100110);
        due.is("0 and 3 know it from one another", ask(x, 1, MENDED), 0b101111);
        due.is("and when all are home again", ask(x, 2, MENDED), 0b101111);
        // 3 knew 0 by a childhood from which it is worn off now.
        due.is("nothing is left in it", ask(x, 2, LEFT), 0);
    }

    @Holds(where = "Terms 2", says = "(who WANTS none always is)")
    static void whoWantsNone(Due due) {
        LentYouths x = Due.at("k;c0061;c6361;c0001;c6301;c0051;c3151");
        Due.row(x, 0);
        due.is("with and without scenes", ask(x, 0, MENDED), 0b001011);
        x.want(2, 6);
        x.want(4, 6);
        x.want(5, 6);
        due.is("all", ask(x, 0, MENDED), 63);
    }

    @Holds(where = "Terms 2", says = "HOME: the fewest LOANS more (whatever is WORN) that bring each CHILDHOOD "
        + "to its own PERSON")
    static void home(Due due) {
        LentYouths x = Due.at("k;t6369;t6369;t6369;t6369;t6369;t6369");
        Due.row(x, 0, 0, 1, 1, 2, 2, 3, 3, 4, 4, 5, 0, 5, 2, 3, 2, 3);
        int[] loans = {0, 1, 2, 3, 4, 5, 4, 3, 4};
        for (int n = 0; n < loans.length; n++) {
            due.is("behind " + n, ask(x, n, HOME), loans[n]);
        }
        Due.counter(x, "k;c0161;c0161");
        Due.row(x, 0, 0, 1, 0, 1, 0, 1);
        due.is("at home, and worn to nothing", ask(x, 2, HOME), 0);
        Due.counter(x, "k;c0161;c0161;t6369");
        Due.row(x, 0, 0, 1, 1, 2);
        due.is("0's is worn to nothing", ask(x, 2, LEFT), 0);
        due.is("it comes home nevertheless", ask(x, 2, HOME), 2);
    }

    @Holds(where = "Promise 6", says = "LOANS of n pairs, that are cells of a SHEET from i on (2 n)")
    static void cellsOfPairs(Due due) {
        LentYouths x = Due.at("k;t6369;t6369;t6369");
        Due.row(x, 0, 9, 0, 1, 1, 2, -9);
        due.is("both", x.loans(0, 2, 1, 2, HAS + 2), 0);
        due.is("the first alone", x.loans(0, 2, 1, 1, HAS + 2), 2);
        due.is("the second alone", x.loans(0, 2, 3, 1, HAS + 2), 1);
        due.is("from ahead of them", x.loans(0, 2, 0, 2, HAS + 2), UNKNOWN);
        due.is("as far as behind them", x.loans(0, 2, 2, 2, HAS + 2), UNKNOWN);
        for (int lane = 0; lane < 3; lane++) {
            x.sheet(1, lane, 2);
            x.put(1, 1, 2);
            due.is("of lane " + lane, x.loans(1, lane, 0, 1, HAS), 2);
        }
    }

    @Holds(where = "Promise 6", says = "who is MENDED, as a set (what 0)")
    static void whoIsMended(Due due) {
        LentYouths x = Due.at("k;c0119;c0229;c0439;c0849;c1659;c3209");
        Due.row(x, 0, 0, 1, 1, 2, 2, 3, 3, 4, 4, 5);
        int[] mended = {0, 1, 3, 7, 15, 63};
        for (int n = 0; n < mended.length; n++) {
            due.is("behind " + n, ask(x, n, MENDED), mended[n]);
        }
    }

    @Holds(where = "Promise 6", says = "the FIRST WRONG (1; NONE)")
    static void firstWrong(Due due) {
        LentYouths x = Due.at("k;t6369;t6369;t6369");
        again(x, 0, 1, 20);
        due.is("none of twenty", ask(x, 20, FIRST_WRONG), NONE);
        due.is("none of none", ask(x, 0, FIRST_WRONG), NONE);
        x.put(0, 38, 1);
        due.is("the last of twenty", ask(x, 20, FIRST_WRONG), 19);
        due.is("ahead of it none", ask(x, 19, FIRST_WRONG), NONE);
        x.put(0, 0, 1);
        due.is("the first of twenty", ask(x, 20, FIRST_WRONG), 0);
        due.is("it is no fault", x.fault(), 0);
    }

    @Holds(where = "Promise 6", says = "the first LOAN behind which all are MENDED (2; NONE: they never are, "
        + "or are without any LOAN)")
    static void allMended(Due due) {
        LentYouths x = Due.at("k;t0119;t0169;t0269");
        again(x, 0, 1, 20);
        due.is("they never are", ask(x, 20, ALL_MENDED), NONE);
        x.put(0, 39, 2);
        due.is("by the last of twenty", ask(x, 20, ALL_MENDED), 19);
        due.is("not yet by nineteen", ask(x, 19, ALL_MENDED), NONE);
        x.put(0, 1, 2);
        due.is("by the first", ask(x, 20, ALL_MENDED), 0);
        due.is("by the first alone", ask(x, 1, ALL_MENDED), 0);
        due.is("by none", ask(x, 0, ALL_MENDED), NONE);
        x.want(0, 0);
        due.is("without any loan", ask(x, 20, ALL_MENDED), NONE);
        due.is("without any loan, by none", ask(x, 0, ALL_MENDED), NONE);
    }

    @Holds(where = "Promise 6", says = "HOME (3)")
    static void homeBehindTwenty(Due due) {
        LentYouths x = Due.at("k;t6369;t6369");
        again(x, 0, 1, 20);
        for (int n = 0; n <= 20; n++) {
            due.is("behind " + n, ask(x, n, HOME), n % 2);
        }
    }

    @Holds(where = "Promise 6", says = "whose CHILDHOOD PERSON p has (10 and p)")
    static void whoseTheyHave(Due due) {
        LentYouths x = Due.at("k;c6369;c6369;c6369;c6369;c6369;c6369");
        Due.row(x, 0, 0, 5, 1, 4, 0, 1);
        int[] has = {4, 5, 2, 3, 1, 0};
        for (int p = 0; p < 6; p++) {
            due.is("of " + p, ask(x, 3, HAS + p), has[p]);
        }
    }

    @Holds(where = "Promise 6", says = "what PERSON p KNOWS, as a set (20 and p)")
    static void whatTheyKnow(Due due) {
        LentYouths x = Due.at("k;c0169;c0269;c0469;c0869;c1669;c3269");
        Due.row(x, 0, 0, 5, 1, 4, 0, 1);
        int[] knows = {1 + 32 + 16, 2 + 16 + 32, 4, 8, 16 + 2, 32 + 1};
        for (int p = 0; p < 6; p++) {
            due.is("of " + p, ask(x, 3, KNOWS + p), knows[p]);
        }
    }

    @Holds(where = "Promise 6", says = "SCENES that are left in CHILDHOOD p, as a set (30 and p; "
        + "each NONE: there is no such PERSON)")
    static void whatIsLeft(Due due) {
        LentYouths x = Due.at("k;c6361;c6361");
        again(x, 0, 1, 7);
        int[] left = {63, 63, 62, 60, 56, 48, 32, 0};
        for (int n = 0; n < left.length; n++) {
            due.is("in 0 behind " + n, ask(x, n, LEFT), left[n]);
            due.is("in 1 behind " + n, ask(x, n, LEFT + 1), left[n]);
        }
        for (int people = 2; people <= 6; people++) {
            Due.counter(x, "k" + ";c6369".repeat(people));
            for (int p = 0; p < 6; p++) {
                boolean there = p < people;
                due.is("who " + p + " has", ask(x, 0, HAS + p), there ? p : NONE);
                due.is("what " + p + " knows", ask(x, 0, KNOWS + p), there ? 63 : NONE);
                due.is("what is left in " + p, ask(x, 0, LEFT + p), there ? 63 : NONE);
            }
        }
    }

    @Holds(where = "Promise 6", says = "of those with a FIRST WRONG: -100 less that (but what 1; "
        + "ahead of a PERSON that there is not)")
    static void ofWrongOnes(Due due) {
        LentYouths x = Due.at("k;t6369;t6369");
        again(x, 0, 1, 20);
        for (int wrong = 19; wrong >= 0; wrong -= 19) {
            x.put(0, 2 * wrong, 1);
            for (int what : new int[] {0, 2, 3, 10, 11, 20, 21, 30, 31}) {
                due.is(what + " of wrong ones", ask(x, 20, what), -100 - wrong);
            }
            for (int what : new int[] {12, 15, 22, 25, 32, 35}) {
                due.is(what + " of nobody, of wrong ones", ask(x, 20, what), -100 - wrong);
                due.is(what + " of nobody", ask(x, wrong, what), NONE);
            }
            due.is("1 of wrong ones", ask(x, 20, FIRST_WRONG), wrong);
            due.is("it is no fault", x.fault(), 0);
        }
        due.is("what can't be told stays outside", ask(x, 20, 4), OUTSIDE);
    }

    @Holds(where = "Promise 6", says = "UNKNOWN: SHEET")
    static void loansOfNoSheet(Due due) {
        for (int sheet : new int[] {-1, 4, MIN, MAX}) {
            Filled.changesNothing(due, "loans of " + sheet, x -> x.loans(sheet, 2, 0, 1, 0), UNKNOWN, 0);
            due.is("without a counter", new LentYouths().loans(sheet, 2, 0, 1, 0), UNKNOWN);
        }
    }

    @Holds(where = "Promise 6", says = "OUTSIDE: lane")
    static void loansOfNoLane(Due due) {
        for (int lane : new int[] {-1, 3, MIN, MAX}) {
            Filled.changesNothing(due, "loans of lane " + lane, x -> x.loans(2, lane, 0, 1, 0), OUTSIDE, 0);
        }
    }

    @Holds(where = "Promise 6", says = "n (0 .. 20)")
    static void howManyLoans(Due due) {
        LentYouths x = Due.at("k;t6369;t6369");
        again(x, 0, 1, 22);
        for (int n = 0; n <= 20; n++) {
            due.is(n + " loans", ask(x, n, FIRST_WRONG), NONE);
        }
        for (int n : new int[] {-1, -2, 21, 22, 1 << 30, MIN, MAX}) {
            due.is(n + " loans", ask(x, n, FIRST_WRONG), OUTSIDE);
            due.is("fault()", x.fault(), 0);
        }
    }

    @Holds(where = "Promise 6", says = "what (0 .. 3, 10 .. 15, 20 .. 25, 30 .. 35)")
    static void whatIsAsked(Due due) {
        LentYouths x = Due.at("k;c0069;c0169;c0269;c0369;c0469;c0569");
        Due.row(x, 0);
        int[] ofAll = {63, NONE, NONE, 0};
        for (int what = -40; what <= 140; what++) {
            int tens = Math.floorDiv(what, 10);
            int p = Math.floorMod(what, 10);
            int answer = OUTSIDE;
            if (tens == 0 && p <= 3) {
                answer = ofAll[p];
            } else if (tens >= 1 && tens <= 3 && p <= 5) {
                answer = p;
            }
            due.is("what " + what, ask(x, 0, what), answer);
        }
        due.is("least what", ask(x, 0, MIN), OUTSIDE);
        due.is("most what", ask(x, 0, MAX), OUTSIDE);
    }

    @Holds(where = "Promise 6", says = "STATE: there is no COUNTER")
    static void withoutCounter(Due due) {
        LentYouths x = new LentYouths();
        due.is("nothing on the sheet", ask(x, 0, MENDED), STATE);
        Due.row(x, 0, 0, 1);
        for (int what : new int[] {0, 1, 2, 3, 10, 25, 35}) {
            due.is("what " + what, ask(x, 0, what), STATE);
            due.is("what " + what + " of one loan", ask(x, 1, what), STATE);
        }
        due.is("a text that just ends", Due.counter(x, "k;c0001"), -107);
        due.is("is no counter", ask(x, 0, MENDED), STATE);
        due.is("fault()", x.fault(), 0);
        Due.counter(x, "k;c0061;c0001");
        due.is("with a counter", ask(x, 0, MENDED), 1);
    }

    @Holds(where = "Promise 6", says = "CAST")
    static void ofAnotherLane(Due due) {
        LentYouths x = Filled.make();
        for (int lane = 0; lane < 3; lane++) {
            due.is("bytes as " + lane, x.loans(0, lane, 0, 0, 0), lane == 0 ? 9 : CAST);
            due.is("shorts as " + lane, x.loans(1, lane, 0, 0, 0), lane == 1 ? 9 : CAST);
            due.is("ints as " + lane, x.loans(2, lane, 0, 0, 0), lane == 2 ? 9 : CAST);
        }
    }

    @Holds(where = "Promise 6", says = "NULL")
    static void ofNothing(Due due) {
        LentYouths x = Filled.make();
        for (int lane = 0; lane < 3; lane++) {
            due.is("nothing as " + lane, x.loans(3, lane, 0, 0, 0), NULL);
            due.is("nothing beyond as " + lane, x.loans(3, lane, -1, 20, 1), NULL);
        }
        due.is("fault()", x.fault(), 1);
    }

    @Holds(where = "Promise 6", says = "INDEX")
    static void ofCellsBeyond(Due due) {
        LentYouths x = Due.at("k;t6369;t6369");
        again(x, 0, 1, 4);
        int[][] beyond = {{-1, 0}, {-1, 1}, {9, 0}, {8, 1}, {7, 1}, {6, 2}, {0, 5}, {1, 4}, {MIN, 0},
            {MAX, 20}, {MIN, 20}, {MAX, 0}};
        for (int[] b : beyond) {
            due.is(b[1] + " loans from " + b[0], x.loans(0, 2, b[0], b[1], FIRST_WRONG), INDEX);
            due.is("fault()", x.fault(), 3);
        }
        int[][] within = {{8, 0}, {6, 1}, {0, 4}, {1, 3}, {7, 0}};
        for (int[] w : within) {
            due.is(w[1] + " loans from " + w[0], x.loans(0, 2, w[0], w[1], FIRST_WRONG), NONE);
            due.is("fault()", x.fault(), 0);
        }
    }

    @Holds(where = "Promise 6", says = "UNKNOWN: a cell is no PERSON")
    static void cellsOfNobody(Due due) {
        LentYouths x = Due.at("k;t6369;t6369;t6369");
        for (int nobody : new int[] {-1, 3, 5, 6, MIN, MAX}) {
            for (int i = 0; i < 4; i++) {
                Due.row(x, 0, 0, 1, 1, 2);
                x.put(0, i, nobody);
                due.is(nobody + " in cell " + i, ask(x, 2, MENDED), UNKNOWN);
                due.is("fault()", x.fault(), 0);
            }
            due.is("a cell that is not taken", ask(x, 1, FIRST_WRONG), NONE);
        }
        Due.row(x, 0, 0, 0, 1, 3);
        due.is("behind a loan that can't be", ask(x, 2, FIRST_WRONG), UNKNOWN);
        due.is("behind a loan that can't be, of nobody", ask(x, 2, HAS + 5), UNKNOWN);
    }
}
