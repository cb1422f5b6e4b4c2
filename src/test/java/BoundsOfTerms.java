/** The sentences on how an object is used, and on refusals and faults, that name a boundary. */
final class BoundsOfTerms {
    private static final int UNKNOWN = -1, OUTSIDE = -2, STATE = -3, FULL = -4;
    private static final int NULL = -11, CAST = -12, INDEX = -13, SIZE = -14;
    private static final int BEFORE = Filled.FAULT_BEFORE;
    private static final long LOST = Filled.LOST;

    private BoundsOfTerms() { }

    @Holds(where = "What it is", says = "at most 512 calls after it has been made")
    static void theLastCall(Due due) {
        LentYouths x = Due.at("k;c0001;t0002");
        int trace = 0;
        for (int call = 16; call <= 510; call++) {
            x.hand(1);
            trace = 31 * trace + 5;
        }
        due.is("call 511, hand(1)", x.hand(1), 40);
        due.is("call 512, trace()", x.trace(), 31 * trace + 5);
    }

    @Holds(where = "Terms", says = "REFUSALS: UNKNOWN (there is no such PERSON, SCENE, SHEET, place)")
    static void unknown(Due due) {
        LentYouths x = Filled.make();
        due.is("PERSON 4 of four", x.help(4), UNKNOWN);
        due.is("PERSON 3 of four", x.help(3), 0);
        due.is("SCENE 6", x.reading(0, 6, true), UNKNOWN);
        due.is("SCENE 5", x.reading(0, 5, true), 2);
        due.is("SHEET 4", x.lose(4), UNKNOWN);
        due.is("SHEET 3", x.lose(3), 0);
        due.is("place -2", x.match(-2), UNKNOWN);
        due.is("place -1", x.match(-1), 4);
    }

    @Holds(where = "Terms", says = "OUTSIDE (another number is not as told)")
    static void outside(Due due) {
        LentYouths x = Filled.make();
        due.is("a set", x.live(0, 64), OUTSIDE);
        due.is("a lane", x.sheet(0, 3, 0), OUTSIDE);
        due.is("what", x.many(2), OUTSIDE);
        due.is("which", x.told(0, 2, 2, 0, 0, 2), OUTSIDE);
        due.is("how many to take back", x.back(3), OUTSIDE);
        due.is("how many loans", x.loans(2, 2, 0, 21, 0), OUTSIDE);
        due.is("a kind", x.as(0, 3), OUTSIDE);
    }

    @Holds(where = "Terms", says = "STATE (as told)")
    static void state(Due due) {
        LentYouths x = new LentYouths();
        Due.row(x, 0, 0, 1);
        due.is("loans", x.loans(0, 2, 0, 1, 0), STATE);
        due.is("loans of none", x.loans(0, 2, 0, 0, 1), STATE);
        due.is("fewest", x.fewest(0, -1), STATE);
        due.is("match", x.match(-1), STATE);
        due.is("told has no STATE", x.told(0, 0, 2, 0, 1, 0), UNKNOWN);
    }

    @Holds(where = "Terms", says = "FULL")
    static void full(Due due) {
        LentYouths x = Filled.make();
        for (int k = 2; k < 8; k++) {
            due.is("reading " + k, x.reading(0, 0, true), k);
        }
        due.is("a ninth one", x.reading(0, 0, true), FULL);
        due.is("one taken back", x.back(1), 7);
        due.is("the eighth one again", x.reading(0, 0, true), 7);
    }

    @Holds(where = "Terms", says = "of several the first in the order in which a call's line tells them")
    static void theFirstRefusal(Due due) {
        LentYouths x = Filled.make();
        due.is("counter: UNKNOWN, OUTSIDE", x.counter(4, 3, -1, -1), UNKNOWN);
        due.is("ofPerson: UNKNOWN, OUTSIDE", x.ofPerson(4, 5), UNKNOWN);
        due.is("live: UNKNOWN, OUTSIDE", x.live(4, 64), UNKNOWN);
        due.is("want: UNKNOWN, OUTSIDE", x.want(4, 7), UNKNOWN);
        due.is("loans: UNKNOWN, OUTSIDE", x.loans(4, 3, 0, 21, 4), UNKNOWN);
        due.is("told: PERSON, OUTSIDE", x.told(4, 2, 3, 0, 21, 2), UNKNOWN);
        due.is("told: SHEET, OUTSIDE", x.told(0, 4, 3, 0, 21, 2), UNKNOWN);
        due.is("kinds: UNKNOWN, OUTSIDE", x.kinds(4, 2, 3, 0, 21), UNKNOWN);
        due.is("wears: UNKNOWN, OUTSIDE", x.wears(0, 4, 3, 0, 21), UNKNOWN);
        due.is("told: OUTSIDE, UNKNOWN of a cell", x.told(0, 2, 2, 0, 4, 2), OUTSIDE);
        due.is("loans: OUTSIDE, UNKNOWN of a cell", x.loans(2, 2, 0, 4, 4), OUTSIDE);
        due.is("sheet: UNKNOWN, OUTSIDE", x.sheet(4, 3, 61), UNKNOWN);
        due.is("as: UNKNOWN, OUTSIDE", x.as(4, 3), UNKNOWN);
        LentYouths none = new LentYouths();
        due.is("loans: UNKNOWN, STATE", none.loans(4, 0, 0, 0, 0), UNKNOWN);
        due.is("loans: OUTSIDE of lane, STATE", none.loans(0, 3, 0, 0, 0), OUTSIDE);
        due.is("loans: OUTSIDE of n, STATE", none.loans(0, 0, 0, 21, 0), OUTSIDE);
        due.is("loans: OUTSIDE of what, STATE", none.loans(0, 0, 0, 0, 4), OUTSIDE);
        due.is("fewest: STATE, though told behind OUTSIDE", none.fewest(-1, 3), STATE);
        due.is("match: UNKNOWN, STATE", none.match(-2), UNKNOWN);
        for (int k = x.many(1); k < 8; k++) {
            x.reading(0, 0, true);
        }
        due.is("reading: FULL", x.reading(0, 0, true), FULL);
        due.is("reading: PERSON, FULL", x.reading(4, 0, true), UNKNOWN);
        due.is("reading: SCENE, FULL", x.reading(0, 6, true), UNKNOWN);
    }

    @Holds(where = "Terms", says = "They change nothing (but fault(), of a call that names FAULTS)")
    static void refusalsChangeNothing(Due due) {
        refusalsOfPeople(due);
        refusalsOfLoans(due);
        refusalsOfWhatPeopleKnew(due);
        refusalsOfSheets(due);
    }

    private static void refusalsOfPeople(Due due) {
        Filled.changesNothing(due, "counter of no sheet", x -> x.counter(4, 0, 0, 13), UNKNOWN, 0);
        Filled.changesNothing(due, "counter of no lane", x -> x.counter(0, 3, 0, 13), OUTSIDE, 0);
        Filled.changesNothing(due, "ofPerson of nobody", x -> x.ofPerson(4, 0), UNKNOWN, BEFORE);
        Filled.changesNothing(due, "ofPerson of 5", x -> x.ofPerson(0, 5), OUTSIDE, BEFORE);
        Filled.changesNothing(due, "live of nobody", x -> x.live(4, 0), UNKNOWN, BEFORE);
        Filled.changesNothing(due, "live of 64", x -> x.live(0, 64), OUTSIDE, BEFORE);
        Filled.changesNothing(due, "live of -1", x -> x.live(0, -1), OUTSIDE, BEFORE);
        Filled.changesNothing(due, "want of nobody", x -> x.want(4, 0), UNKNOWN, BEFORE);
        Filled.changesNothing(due, "want of 7", x -> x.want(0, 7), OUTSIDE, BEFORE);
        Filled.changesNothing(due, "want of -1", x -> x.want(0, -1), OUTSIDE, BEFORE);
        Filled.changesNothing(due, "tell of nobody", x -> x.tell(4), UNKNOWN, BEFORE);
        Filled.changesNothing(due, "hand of nobody", x -> x.hand(4), UNKNOWN, BEFORE);
        Filled.changesNothing(due, "as of nobody", x -> x.as(4, 0), UNKNOWN, 0);
        Filled.changesNothing(due, "as of no kind", x -> x.as(0, 3), OUTSIDE, 0);
        Filled.changesNothing(due, "many of 2", x -> x.many(2), OUTSIDE, BEFORE);
    }

    private static void refusalsOfLoans(Due due) {
        Filled.changesNothing(due, "loans of no sheet", x -> x.loans(4, 2, 0, 1, 0), UNKNOWN, 0);
        Filled.changesNothing(due, "loans of no lane", x -> x.loans(2, 3, 0, 1, 0), OUTSIDE, 0);
        Filled.changesNothing(due, "21 loans", x -> x.loans(2, 2, 0, 21, 0), OUTSIDE, 0);
        Filled.changesNothing(due, "loans, 4", x -> x.loans(2, 2, 0, 1, 4), OUTSIDE, 0);
        Filled.changesNothing(due, "loans of nobody", x -> x.loans(2, 2, 0, 4, 0), UNKNOWN, 0);
        Filled.changesNothing(due, "fewest of nobody", x -> x.fewest(16, -1), OUTSIDE, BEFORE);
        Filled.changesNothing(due, "fewest, 3", x -> x.fewest(0, 3), OUTSIDE, BEFORE);
        Filled.changesNothing(due, "match of -2", x -> x.match(-2), UNKNOWN, BEFORE);
        Filled.changesNothing(due, "help of nobody", x -> x.help(4), UNKNOWN, BEFORE);
    }

    private static void refusalsOfWhatPeopleKnew(Due due) {
        Filled.changesNothing(due, "reading of nobody", x -> x.reading(4, 0, true), UNKNOWN, BEFORE);
        Filled.changesNothing(due, "reading of no scene", x -> x.reading(0, 6, true), UNKNOWN, BEFORE);
        Filled.changesNothing(due, "back of three", x -> x.back(3), OUTSIDE, BEFORE);
        Filled.changesNothing(due, "back of -1", x -> x.back(-1), OUTSIDE, BEFORE);
        Filled.changesNothing(due, "told of nobody", x -> x.told(4, 2, 2, 0, 1, 0), UNKNOWN, 0);
        Filled.changesNothing(due, "told of no sheet", x -> x.told(0, 4, 2, 0, 1, 0), UNKNOWN, 0);
        Filled.changesNothing(due, "told of no lane", x -> x.told(0, 2, 3, 0, 1, 0), OUTSIDE, 0);
        Filled.changesNothing(due, "told, 2", x -> x.told(0, 2, 2, 0, 1, 2), OUTSIDE, 0);
        Filled.changesNothing(due, "told by nobody's", x -> x.told(0, 2, 2, 0, 4, 0), UNKNOWN, 0);
        Filled.changesNothing(due, "kinds of nobody", x -> x.kinds(4, 2, 2, 0, 1), UNKNOWN, 0);
        Filled.changesNothing(due, "kinds by 21", x -> x.kinds(0, 2, 2, 0, 21), OUTSIDE, 0);
        Filled.changesNothing(due, "kinds by nobody's", x -> x.kinds(0, 2, 2, 0, 4), UNKNOWN, 0);
        Filled.changesNothing(due, "wears of nobody", x -> x.wears(4, 2, 2, 0, 1), UNKNOWN, 0);
        Filled.changesNothing(due, "wears by 21", x -> x.wears(0, 2, 2, 0, 21), OUTSIDE, 0);
        Filled.changesNothing(due, "wears by nobody's", x -> x.wears(0, 2, 2, 0, 4), UNKNOWN, 0);
        Filled.changesNothing(due, "odds of nobody", x -> x.odds(4, 2, 2, 0, 1, 0), LOST, 0);
        Filled.changesNothing(due, "odds, 2", x -> x.odds(0, 2, 2, 0, 1, 2), LOST, 0);
        Filled.changesNothing(due, "odds by nobody's", x -> x.odds(0, 2, 2, 0, 4, 0), LOST, 0);
        Filled.changesNothing(due, "odds by wrong ones", x -> x.odds(0, 2, 2, 0, 3, 0), LOST, 0);
    }

    private static void refusalsOfSheets(Due due) {
        Filled.changesNothing(due, "sheet 4", x -> x.sheet(4, 0, 5), UNKNOWN, 0);
        Filled.changesNothing(due, "sheet of no lane", x -> x.sheet(0, 3, 5), OUTSIDE, 0);
        Filled.changesNothing(due, "sheet of 61", x -> x.sheet(0, 0, 61), OUTSIDE, 0);
        Filled.changesNothing(due, "lose of no sheet", x -> x.lose(4), UNKNOWN, BEFORE);
        Filled.changesNothing(due, "put to no sheet", x -> x.put(4, 0, 9), UNKNOWN, 0);
        Filled.changesNothing(due, "cell of no sheet", x -> x.cell(4, 0, 0), LOST, 0);
        Filled.changesNothing(due, "cell of no lane", x -> x.cell(0, 0, 3), LOST, 0);
        Filled.changesNothing(due, "copy of no sheet", x -> x.copy(4, 0, 2, 0, 1), UNKNOWN, 0);
        Filled.changesNothing(due, "copy to no sheet", x -> x.copy(2, 0, 4, 0, 1), UNKNOWN, 0);
    }

    @Holds(where = "Terms", says = "FAULTS are the machine's: 1 NULL (there is nothing)")
    static void nothingIsNull(Due due) {
        LentYouths x = Filled.make();
        due.is("a sheet that is lost", x.put(3, 0, 0), NULL);
        due.is("its number", x.fault(), 1);
        due.is("a row of no numbers", x.sheet(3, 2, 0), 1);
        due.is("that is something", x.loans(3, 2, 0, 0, 0), 9);
    }

    @Holds(where = "Terms", says = "2 CAST (it is of another LANE, kind)")
    static void anotherIsCast(Due due) {
        LentYouths x = Filled.make();
        for (int lane = 0; lane < 3; lane++) {
            due.is("ints as lane " + lane, x.loans(2, lane, 0, 0, 0), lane == 2 ? 9 : CAST);
            due.is("its number", x.fault(), lane == 2 ? 0 : 2);
        }
        due.is("a childhood as a sad one", x.as(0, 1), CAST);
        due.is("its number", x.fault(), 2);
    }

    @Holds(where = "Terms", says = "3 INDEX (of cells from i on also where i is not 0 .. how many there are, "
        + "if none of them is taken, too)")
    static void indexThoughNoneIsTaken(Due due) {
        LentYouths x = Filled.make();
        for (int i : new int[] {-1, 9, Filled.MIN, Filled.MAX}) {
            due.is("counter from " + i, x.counter(2, 2, i, 0), INDEX);
            due.is("its number", x.fault(), 3);
            due.is("loans from " + i, x.loans(2, 2, i, 0, 0), INDEX);
            due.is("told from " + i, x.told(0, 2, 2, i, 0, 0), INDEX);
            due.is("kinds from " + i, x.kinds(0, 2, 2, i, 0), INDEX);
            due.is("wears from " + i, x.wears(0, 2, 2, i, 0), INDEX);
            due.is("odds from " + i, x.odds(0, 2, 2, i, 0, 0), LOST);
            due.is("its number", x.fault(), 3);
            due.is("copy from " + i, x.copy(2, i, 2, 0, 0), INDEX);
            due.is("copy to " + i, x.copy(2, 0, 2, i, 0), INDEX);
        }
        due.is("counter from how many there are", x.counter(2, 2, 8, 0), -100);
        due.is("loans from how many there are", x.loans(2, 2, 8, 0, 0), 9);
        due.is("told from how many there are", x.told(1, 2, 2, 8, 0, 0), 0);
        due.is("copy at how many there are", x.copy(2, 8, 2, 8, 0), 0);
        due.is("no fault", x.fault(), 0);
    }

    @Holds(where = "Terms", says = "4 SIZE (a length below 0)")
    static void lengthsBelowNought(Due due) {
        LentYouths x = Filled.make();
        for (int n : new int[] {-1, -2, Filled.MIN}) {
            due.is("a text of " + n, x.counter(0, 0, 0, n), SIZE);
            due.is("its number", x.fault(), 4);
            due.is("a row of " + n, x.sheet(0, 0, n), SIZE);
            due.is("its number", x.fault(), 4);
        }
        due.is("a row of 0", x.sheet(0, 0, 0), 1);
        due.is("a text of 0", x.counter(0, 0, 0, 0), -100);
        due.is("no fault", x.fault(), 0);
    }

    @Holds(where = "Terms", says = "Of a call the first that is come to, in the order told")
    static void theFirstFault(Due due) {
        LentYouths x = Filled.make();
        due.is("counter: OUTSIDE, CAST", x.counter(0, 3, -1, -1), OUTSIDE);
        due.is("counter: CAST, SIZE, INDEX", x.counter(0, 1, -1, -1), CAST);
        due.is("counter: NULL, SIZE, INDEX", x.counter(3, 1, -1, -1), NULL);
        due.is("counter: SIZE, INDEX", x.counter(0, 0, -1, -1), SIZE);
        due.is("loans: OUTSIDE, CAST", x.loans(2, 1, -1, 21, 0), OUTSIDE);
        due.is("loans: CAST, INDEX", x.loans(2, 1, -1, 1, 0), CAST);
        due.is("loans: NULL, INDEX", x.loans(3, 1, -1, 1, 0), NULL);
        due.is("loans: INDEX, UNKNOWN of a cell", x.loans(2, 2, 6, 2, 0), INDEX);
        due.is("told: OUTSIDE, CAST", x.told(0, 2, 1, -1, 1, 2), OUTSIDE);
        due.is("told: CAST, INDEX", x.told(0, 2, 1, -1, 1, 0), CAST);
        due.is("told: NULL, INDEX", x.told(0, 3, 1, -1, 1, 0), NULL);
        due.is("told: INDEX, UNKNOWN of a cell", x.told(0, 2, 2, 6, 2, 0), INDEX);
        due.is("sheet: OUTSIDE, SIZE", x.sheet(0, 3, -1), OUTSIDE);
        due.is("put: NULL, INDEX", x.put(3, -1, 0), NULL);
        due.is("copy: NULL, CAST, INDEX", x.copy(3, -1, 2, -1, -1), NULL);
        due.is("copy: CAST, INDEX", x.copy(1, -1, 2, -1, -1), CAST);
        x.cell(2, 8, 1);
        due.is("cell: CAST, INDEX", x.fault(), 2);
        x.cell(3, -1, 1);
        due.is("cell: NULL, INDEX", x.fault(), 1);
        LentYouths none = new LentYouths();
        due.is("loans: STATE, NULL", none.loans(0, 0, 0, 0, 0), STATE);
        none.sheet(0, 0, 0);
        due.is("loans: STATE, CAST", none.loans(0, 1, 0, 0, 0), STATE);
    }

    @Holds(where = "Terms", says = "it answers -10 less it (LOST, where a long is answered, as for refusals) "
        + "and changes nothing")
    static void faultsChangeNothing(Due due) {
        Filled.changesNothing(due, "counter, NULL", x -> x.counter(3, 0, 0, 13), NULL, 1);
        Filled.changesNothing(due, "counter, CAST", x -> x.counter(0, 1, 0, 13), CAST, 2);
        Filled.changesNothing(due, "counter, INDEX", x -> x.counter(0, 0, 1, 13), INDEX, 3);
        Filled.changesNothing(due, "counter, SIZE", x -> x.counter(0, 0, 0, -1), SIZE, 4);
        Filled.changesNothing(due, "loans, NULL", x -> x.loans(3, 2, 0, 1, 0), NULL, 1);
        Filled.changesNothing(due, "loans, CAST", x -> x.loans(2, 1, 0, 1, 0), CAST, 2);
        Filled.changesNothing(due, "loans, INDEX", x -> x.loans(2, 2, 7, 1, 0), INDEX, 3);
        Filled.changesNothing(due, "told, NULL", x -> x.told(0, 3, 2, 0, 1, 0), NULL, 1);
        Filled.changesNothing(due, "kinds, CAST", x -> x.kinds(0, 2, 1, 0, 1), CAST, 2);
        Filled.changesNothing(due, "wears, INDEX", x -> x.wears(0, 2, 2, 7, 1), INDEX, 3);
        Filled.changesNothing(due, "odds, NULL", x -> x.odds(0, 3, 2, 0, 1, 0), LOST, 1);
        Filled.changesNothing(due, "odds, CAST", x -> x.odds(0, 2, 1, 0, 1, 0), LOST, 2);
        Filled.changesNothing(due, "odds, INDEX", x -> x.odds(0, 2, 2, 7, 1, 0), LOST, 3);
        Filled.changesNothing(due, "sheet, SIZE", x -> x.sheet(2, 1, -1), SIZE, 4);
        Filled.changesNothing(due, "put, NULL", x -> x.put(3, 0, 9), NULL, 1);
        Filled.changesNothing(due, "put, INDEX", x -> x.put(2, 8, 9), INDEX, 3);
        Filled.changesNothing(due, "cell, NULL", x -> x.cell(3, 0, 0), LOST, 1);
        Filled.changesNothing(due, "cell, CAST", x -> x.cell(2, 0, 1), LOST, 2);
        Filled.changesNothing(due, "cell, INDEX", x -> x.cell(2, 8, 2), LOST, 3);
        Filled.changesNothing(due, "copy, NULL", x -> x.copy(2, 0, 3, 0, 1), NULL, 1);
        Filled.changesNothing(due, "copy, CAST", x -> x.copy(1, 0, 2, 0, 1), CAST, 2);
        Filled.changesNothing(due, "copy, INDEX", x -> x.copy(2, 0, 2, 2, 7), INDEX, 3);
        Filled.changesNothing(due, "as, CAST", x -> x.as(0, 1), CAST, 2);
    }

    @Holds(where = "Terms", says = "fault() tells it")
    static void faultTellsIt(Due due) {
        LentYouths x = Filled.make();
        due.is("NULL", x.put(3, 0, 0), NULL);
        due.is("its number", x.fault(), 1);
        due.is("CAST", x.as(0, 2), CAST);
        due.is("its number", x.fault(), 2);
        due.is("INDEX", x.put(0, 99, 0), INDEX);
        due.is("its number", x.fault(), 3);
        due.is("SIZE", x.sheet(0, 0, -1), SIZE);
        due.is("its number", x.fault(), 4);
        due.is("LOST", x.cell(3, 0, 0), LOST);
        due.is("its number", x.fault(), 1);
    }

    @Holds(where = "Terms", says = "NONE is -9")
    static void none(Due due) {
        LentYouths x = Filled.make();
        due.is("match of nobody", x.match(4), -9);
        due.is("a first loan of none", x.fewest(0, 0), -9);
        due.is("it is no fault", x.fault(), BEFORE);
        due.is("a first wrong of none", x.loans(2, 2, 0, 2, 1), -9);
        due.is("it is no fault", x.fault(), 0);
    }

    @Holds(where = "Terms", says = "Sets are told as bits (bit k for number k)")
    static void setsAreBits(Due due) {
        LentYouths x = Due.at("k;c0161;c3261");
        Due.row(x, 0, 0, 1);
        due.is("scene 0", x.ofPerson(0, 1), 1);
        due.is("scene 5", x.ofPerson(1, 1), 32);
        x.reading(1, 5, true);
        due.is("the set of scene 5 alone is taken", x.loans(0, 2, 0, 1, 20), 33);
        due.is("fewest for the set of person 1", x.fewest(2, -1), 0);
        x.want(1, 0);
        due.is("person 0 is mended", x.loans(0, 2, 0, 0, 0), 1);
        due.is("fewest for the set of person 1 now", x.fewest(2, -1), 1);
        due.is("fewest for the set of person 0 now", x.fewest(1, -1), 0);
    }

    @Holds(where = "Terms", says = "Shares are told as upper and lower number (above 0) in least terms")
    static void sharesInLeastTerms(Due due) {
        LentYouths x = Due.at("k;c0109;c0109;c0109;c6309;c6319;c0169");
        Due.row(x, 0, 0, 1, 0, 2);
        share(due, x, 4, 0, 1, 2);
        x.live(4, 0);
        share(due, x, 4, 0, 0, 1);
        share(due, x, 5, 0, 1, 1);
        share(due, x, 0, 1, 3, 4);
        share(due, x, 0, 2, 7, 8);
    }

    private static void share(Due due, LentYouths x, int p, int n, int upper, int lower) {
        due.is("upper of " + p + " behind " + n, x.odds(p, 0, 2, 0, n, 0), upper);
        due.is("lower of " + p + " behind " + n, x.odds(p, 0, 2, 0, n, 1), lower);
    }
}
