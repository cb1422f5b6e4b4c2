/** The sentences on what people knew, part 4 and promises 10 to 15, that name a boundary. */
final class BoundsOfReadings {
    private static final int UNKNOWN = -1, OUTSIDE = -2, FULL = -4, NONE = -9;
    private static final int NULL = -11, CAST = -12, INDEX = -13;
    private static final int MIN = Filled.MIN, MAX = Filled.MAX;
    private static final long LOST = Filled.LOST;

    private BoundsOfReadings() { }

    /** By the first n loans of sheet 0. */
    private static void toldIs(Due due, LentYouths x, int p, int n, int howMany, int least) {
        due.is("how many of " + p + " by " + n, x.told(p, 0, 2, 0, n, 0), howMany);
        due.is("the least of " + p + " by " + n, x.told(p, 0, 2, 0, n, 1), least);
    }

    private static void kindsAre(Due due, LentYouths x, int p, int n, int set) {
        due.is("kinds of " + p + " by " + n, x.kinds(p, 0, 2, 0, n), set);
    }

    private static void wearsAre(Due due, LentYouths x, int p, int n, int set) {
        due.is("wears of " + p + " by " + n, x.wears(p, 0, 2, 0, n), set);
    }

    private static void share(Due due, LentYouths x, int p, int n, int upper, int lower) {
        due.is("upper of " + p + " by " + n, x.odds(p, 0, 2, 0, n, 0), upper);
        due.is("lower of " + p + " by " + n, x.odds(p, 0, 2, 0, n, 1), lower);
        due.is("fault()", x.fault(), 0);
    }

    @Holds(where = "Terms 4", says = "READINGS, 8 at most, each numbered by how many there are ahead of it "
        + "(the first one 0)")
    static void eightAtMost(Due due) {
        LentYouths x = Due.at(Filled.FOUR);
        for (int k = 0; k < 8; k++) {
            due.is("many ahead of it", x.many(1), k);
            due.is("reading " + k, x.reading(0, 0, true), k);
        }
        due.is("the ninth", x.reading(1, 1, true), FULL);
        due.is("many", x.many(1), 8);
        x.back(8);
        due.is("the first again", x.reading(0, 0, true), 0);
    }

    @Holds(where = "Terms 4", says = "behind LOANS that are told a PERSON KNEW a SCENE, or did not")
    static void knewOrDidNot(Due due) {
        LentYouths x = Due.at("k;c0161;c3261;c0069");
        Due.row(x, 0, 0, 1);
        x.reading(1, 0, true);
        toldIs(due, x, 0, 1, 32, 1);
        x.reading(1, 1, false);
        toldIs(due, x, 0, 1, 16, 1);
        x.reading(0, 5, true);
        toldIs(due, x, 0, 1, 16, 1);
        // Without the loan 1 knows 0 by no childhood of 0's; nor does 0 know 5 but by their own.
        toldIs(due, x, 0, 0, 0, NONE);
        x.reading(2, 0, false);
        toldIs(due, x, 0, 1, 16, 1);
        x.reading(2, 0, true);
        toldIs(due, x, 0, 1, 0, NONE);
    }

    @Holds(where = "Terms 4", says = "All by such LOANS (that they can't be as it is now does not matter)")
    static void thoughTheyCannotBe(Due due) {
        LentYouths x = Due.at("k;c0061;c6369");
        Due.row(x, 0, 0, 1, 0, 1, 0, 1, 0, 1);
        due.is("it can't be", x.loans(0, 2, 0, 1, 1), 0);
        toldIs(due, x, 0, 1, 63, 1);
        due.is("told is no wrong loan", x.fault(), 0);
        // Behind three loans two scenes are worn, as ahead of a fourth one that needs a third.
        toldIs(due, x, 0, 4, 64 - 1 - 6 - 15, 7);
        kindsAre(due, x, 0, 1, 0);
        wearsAre(due, x, 0, 1, 0);
        x.live(0, 1);
        due.is("as a childhood of wear 1 it can't", x.loans(0, 2, 0, 3, 1), 2);
        kindsAre(due, x, 0, 3, 6);
        kindsAre(due, x, 0, 4, 4);
        wearsAre(due, x, 0, 3, 1020);
        wearsAre(due, x, 0, 4, 1016);
        Due.row(x, 0, 0, 0);
        toldIs(due, x, 0, 1, 0, NONE);
        kindsAre(due, x, 0, 1, 0);
        wearsAre(due, x, 0, 1, 0);
    }

    @Holds(where = "Terms 4", says = "in place of what it is alone, by which they can be and all READINGS are so")
    static void inPlaceOfWhatItIsAlone(Due due) {
        LentYouths x = Due.at("k;c0161;c0261;c0069");
        Due.row(x, 0, 0, 1, 0, 2);
        // 2's childhood has no scenes, so that in place of 0's alone nothing helps.
        toldIs(due, x, 0, 2, 0, NONE);
        toldIs(due, x, 2, 2, 63, 1);
        x.live(2, 32);
        toldIs(due, x, 0, 2, 63, 1);
        x.reading(0, 0, true);
        x.reading(0, 1, true);
        x.reading(0, 2, true);
        // 0 knows 0 by their own, 1 by 1's, and 5 by 2's: each one's in its place may show 2.
        toldIs(due, x, 0, 2, 16, 5);
        toldIs(due, x, 1, 2, 16, 6);
        toldIs(due, x, 2, 2, 32, 4);
        due.is("0's own is as it was", x.ofPerson(0, 1), 1);
        due.is("2's own, too", x.ofPerson(2, 1), 32);
        due.is("and the wear", x.ofPerson(0, 3), 1);
        due.is("and the kind", x.ofPerson(0, 0), 0);
    }

    @Holds(where = "Terms 4", says = "TOLD of a CHILDHOOD: its SCENES: how many sets (0 .. 63), the least")
    static void howManySets(Due due) {
        LentYouths x = Due.at("k;c0161;c0161");
        Due.row(x, 0);
        toldIs(due, x, 0, 0, 64, 0);
        for (int scene = 0; scene < 6; scene++) {
            x.reading(0, scene, false);
            toldIs(due, x, 0, 0, 32 >> scene, 0);
        }
        x.back(6);
        for (int scene = 0; scene < 6; scene++) {
            x.reading(0, scene, true);
            toldIs(due, x, 0, 0, 32 >> scene, (2 << scene) - 1);
        }
        x.back(1);
        x.reading(0, 5, false);
        toldIs(due, x, 0, 0, 1, 31);
        x.reading(0, 5, true);
        toldIs(due, x, 0, 0, 0, NONE);
        x.back(7);
        x.reading(0, 5, true);
        toldIs(due, x, 0, 0, 32, 32);
        // The last one's lasts for one loan, and another one for twenty: 0 gets the last one's by a second loan.
        Due.counter(x, "k;t0069;t3269;c3261");
        x.live(0, 32);
        Due.row(x, 0, 2, 1, 1, 0);
        x.reading(0, 0, false);
        x.reading(0, 1, true);
        toldIs(due, x, 2, 2, 16, 3);
        toldIs(due, x, 1, 2, 0, NONE);
    }

    @Holds(where = "Terms 4", says = "KINDS of a CHILDHOOD: 0 .. 2, as a set")
    static void kindsFromNoughtToTwo(Due due) {
        LentYouths x = Due.at("k;c6361;t6069;t6069");
        // The third loan brings childhood 0 to 2: of a childhood two scenes are worn, of a sad one one.
        Due.row(x, 0, 0, 1, 0, 1, 0, 2);
        kindsAre(due, x, 0, 3, 7);
        x.reading(2, 1, false);
        kindsAre(due, x, 0, 3, 1);
        x.back(1);
        x.reading(2, 0, true);
        kindsAre(due, x, 0, 3, 4);
        x.back(1);
        x.reading(2, 0, false);
        kindsAre(due, x, 0, 3, 3);
        x.reading(2, 1, true);
        kindsAre(due, x, 0, 3, 2);
        x.reading(2, 5, false);
        kindsAre(due, x, 0, 3, 0);
        due.is("the kind stays", x.ofPerson(0, 0), 0);
        // The last one's, of wear 2: by the fourth loan two scenes, one or none are worn.
        Due.counter(x, "k;t6069;t6069;c6362");
        Due.row(x, 0, 2, 1, 2, 1, 2, 1, 2, 1);
        x.reading(0, 5, true);
        kindsAre(due, x, 2, 4, 7);
        Due.row(x, 0, 2, 1, 2, 1, 2, 1, 1, 0);
        x.reading(0, 0, false);
        kindsAre(due, x, 2, 4, 3);
        x.reading(0, 1, true);
        kindsAre(due, x, 2, 4, 2);
        kindsAre(due, x, 1, 4, 0);
    }

    @Holds(where = "Terms 4", says = "WEARS of a CHILDHOOD: 1 .. 9, as a set")
    static void wearsFromOneToNine(Due due) {
        LentYouths x = Due.at("k;c6365;t6269;t6269");
        Due.row(x, 0, 0, 1, 0, 1, 0, 1, 0, 1, 0, 1, 0, 1, 0, 1, 0, 1, 0, 2);
        wearsAre(due, x, 0, 0, 1022);
        wearsAre(due, x, 0, 7, 1022);
        // Of wear 1 none of the six scenes is left ahead of the eighth loan.
        wearsAre(due, x, 0, 8, 1020);
        wearsAre(due, x, 0, 9, 1016);
        x.reading(2, 0, true);
        wearsAre(due, x, 0, 9, 512);
        x.back(1);
        x.reading(2, 0, false);
        wearsAre(due, x, 0, 9, 1016 - 512);
        Due.counter(x, "k;c6365;t6269;t6269");
        Due.row(x, 0, 0, 1, 1, 2);
        x.reading(2, 0, false);
        wearsAre(due, x, 0, 2, 2);
        x.back(1);
        x.reading(2, 0, true);
        wearsAre(due, x, 0, 2, 1020);
        due.is("the wear stays", x.ofPerson(0, 3), 5);
        // The last one's, a sad one: by the third loan it is worn, if of wear 1.
        Due.counter(x, "k;t6269;t6269;s6363");
        Due.row(x, 0, 2, 1, 2, 1, 2, 0);
        wearsAre(due, x, 2, 3, 1022);
        x.reading(0, 0, false);
        wearsAre(due, x, 2, 3, 2);
        x.back(1);
        x.reading(0, 0, true);
        wearsAre(due, x, 2, 3, 1020);
        wearsAre(due, x, 0, 3, 1022);
    }

    @Holds(where = "Terms 4", says = "ODDS of a PERSON by LOANS that can be")
    static void oddsOfLoansThatCanBe(Due due) {
        LentYouths x = Due.at("k;c0161;c0209;c0061");
        Due.row(x, 0, 0, 1, 0, 1, 0, 1);
        share(due, x, 1, 1, 1, 2);
        share(due, x, 1, 2, 1, 2);
        for (int p = 0; p < 3; p++) {
            due.is("a third one can't be", x.odds(p, 0, 2, 0, 3, 0), LOST);
            due.is("nor has it a lower number", x.odds(p, 0, 2, 0, 3, 1), LOST);
            due.is("fault()", x.fault(), 0);
        }
    }

    @Holds(where = "Terms 4", says = "if each SCENE that they came to KNOW by a CHILDHOOD "
        + "(each CHILDHOOD by itself, be it had often) is remembered, or is not, all alike")
    static void eachChildhoodByItself(Due due) {
        LentYouths x = Due.at("k;c0109;c0169;c0269;c0169");
        Due.row(x, 0, 0, 1, 0, 1, 0, 1, 0, 2, 0, 3);
        share(due, x, 0, 0, 1, 2);
        share(due, x, 0, 1, 3, 4);
        // The same two childhoods are had again and again.
        share(due, x, 0, 2, 3, 4);
        share(due, x, 0, 3, 3, 4);
        share(due, x, 0, 4, 3, 4);
        share(due, x, 0, 5, 7, 8);
        // Each person's own childhood, and another one's, whoever they are.
        Due.counter(x, "k;c0169;c0109;c0109;c0209");
        Due.row(x, 0, 0, 1, 1, 2, 1, 2, 1, 3);
        share(due, x, 1, 0, 1, 2);
        share(due, x, 1, 1, 3, 4);
        share(due, x, 1, 2, 7, 8);
        share(due, x, 1, 3, 7, 8);
        share(due, x, 1, 4, 7, 8);
        share(due, x, 2, 2, 3, 4);
        share(due, x, 2, 4, 3, 4);
        share(due, x, 3, 3, 0, 1);
        share(due, x, 3, 4, 1, 2);
        // Had again with less in it, a childhood showed what it showed at first.
        Due.counter(x, "k;c0761;c1209;c1609");
        Due.row(x, 0, 0, 1, 0, 1, 0, 1, 1, 2);
        share(due, x, 1, 1, 1, 2);
        share(due, x, 1, 3, 1, 2);
        share(due, x, 1, 4, 1, 2);
        // What is worn off later was seen nevertheless; what is worn off with the loan was not.
        Due.counter(x, "k;c0361;c0469;c0809");
        Due.row(x, 0, 0, 1, 1, 2);
        share(due, x, 2, 2, 0, 1);
        x.want(0, 0);
        share(due, x, 0, 2, 1, 2);
        x.want(1, 0);
        share(due, x, 1, 2, 1, 2);
        x.want(2, 1);
        share(due, x, 2, 2, 1, 2);
    }

    @Holds(where = "Terms 4", says = "the share by which they are MENDED")
    static void theShare(Due due) {
        LentYouths x = Due.at("k;c0109;c0169;c0169;c0169;c0169;c0161");
        Due.row(x, 0, 0, 1, 0, 2, 0, 3, 0, 4, 0, 5);
        int[] lower = {2, 4, 8, 16, 32, 64};
        for (int n = 0; n < lower.length; n++) {
            share(due, x, 0, n, lower[n] - 1, lower[n]);
        }
        x.want(0, 6);
        share(due, x, 0, 0, 1, 1);
        share(due, x, 0, 5, 1, 1);
        x.want(0, 5);
        share(due, x, 0, 0, 0, 1);
        share(due, x, 0, 5, 0, 1);
    }

    @Holds(where = "Promise 10", says = "A READING: its number")
    static void readingTellsItsNumber(Due due) {
        LentYouths x = Due.at(Filled.FOUR);
        due.is("the first", x.reading(3, 5, true), 0);
        due.is("the second", x.reading(0, 0, false), 1);
        due.is("one is taken back", x.back(1), 1);
        due.is("the second again", x.reading(0, 0, false), 1);
        due.is("the third, the same again", x.reading(0, 0, false), 2);
        Due.counter(x, Filled.FOUR);
        due.is("the first of a new counter", x.reading(3, 5, true), 0);
    }

    @Holds(where = "Promise 10", says = "UNKNOWN: PERSON, SCENE (0 .. 5)")
    static void readingOfNobody(Due due) {
        LentYouths x = Due.at(Filled.FOUR);
        for (int p : new int[] {-1, 4, 5, 6, MIN, MAX}) {
            due.is("person " + p, x.reading(p, 0, true), UNKNOWN);
            due.is("without a counter", new LentYouths().reading(p, 0, false), UNKNOWN);
        }
        for (int scene : new int[] {-1, 6, 7, MIN, MAX}) {
            due.is("scene " + scene, x.reading(0, scene, false), UNKNOWN);
        }
        due.is("none is taken", x.many(1), 0);
        for (int scene = 0; scene <= 5; scene++) {
            due.is("scene " + scene, x.reading(scene % 4, scene, true), scene);
        }
    }

    @Holds(where = "Promise 10", says = "FULL")
    static void readingsAreFull(Due due) {
        LentYouths x = Due.at("k;c0161;c0161");
        Due.row(x, 0);
        for (int k = 0; k < 8; k++) {
            x.reading(0, k % 4, true);
        }
        toldIs(due, x, 0, 0, 4, 15);
        due.is("a ninth", x.reading(0, 5, true), FULL);
        due.is("a tenth", x.reading(0, 0, false), FULL);
        due.is("many", x.many(1), 8);
        toldIs(due, x, 0, 0, 4, 15);
        due.is("none is taken back", x.back(0), 8);
        due.is("an eleventh", x.reading(0, 5, true), FULL);
        due.is("one is taken back", x.back(1), 7);
        due.is("the eighth", x.reading(0, 5, true), 7);
        toldIs(due, x, 0, 0, 2, 32 + 15);
    }

    @Holds(where = "Promise 11", says = "The last k READINGS (0 .. as many as there are) are taken back: "
        + "how many are left")
    static void takenBack(Due due) {
        LentYouths x = Due.at("k;c0161;c0161");
        Due.row(x, 0);
        due.is("none of none", x.back(0), 0);
        due.is("none of none without a counter", new LentYouths().back(0), 0);
        x.reading(0, 5, true);
        x.reading(0, 4, true);
        x.reading(0, 3, true);
        due.is("none", x.back(0), 3);
        toldIs(due, x, 0, 0, 8, 56);
        due.is("the last one", x.back(1), 2);
        toldIs(due, x, 0, 0, 16, 48);
        due.is("as many as there are", x.back(2), 0);
        toldIs(due, x, 0, 0, 64, 0);
        for (int k = 0; k < 8; k++) {
            x.reading(0, 0, true);
        }
        due.is("all eight", x.back(8), 0);
    }

    @Holds(where = "Promise 11", says = "OUTSIDE")
    static void backOutside(Due due) {
        LentYouths x = Due.at("k;c0161;c0161");
        for (int there = 0; there <= 8; there++) {
            for (int k : new int[] {-1, there + 1, there + 2, 9, MIN, MAX}) {
                due.is(k + " of " + there, x.back(k), OUTSIDE);
            }
            due.is("many", x.many(1), there);
            x.reading(0, 0, true);
        }
        due.is("of a counter that there is not", new LentYouths().back(1), OUTSIDE);
    }

    @Holds(where = "Promise 12", says = "TOLD by such LOANS: how many (which 0), the least (1; NONE)")
    static void told(Due due) {
        LentYouths x = Due.at(Filled.FOUR);
        Due.row(x, 0, 0, 1, 2, 2);
        toldIs(due, x, 0, 0, 64, 0);
        toldIs(due, x, 0, 1, 63, 1);
        toldIs(due, x, 0, 2, 0, NONE);
        x.reading(3, 5, false);
        toldIs(due, x, 3, 0, 32, 0);
        toldIs(due, x, 2, 0, 0, NONE);
    }

    /** The refusals and faults that told() shares with kinds(), wears() and odds(). */
    private static void unknown(Due due, String name, Filled.Asked asked, boolean isLong) {
        long answer = isLong ? LOST : UNKNOWN;
        for (int p : new int[] {-1, 4, 5, 6, MIN, MAX}) {
            Filled.changesNothing(due, name + " of " + p, x -> asked.on(x, p, 2, 2, 0, 1), answer, 0);
            due.is("without a counter", asked.on(new LentYouths(), p, 0, 0, 0, 0), answer);
        }
        for (int sheet : new int[] {-1, 4, MIN, MAX}) {
            Filled.changesNothing(due, name + " by " + sheet, x -> asked.on(x, 0, sheet, 2, 0, 1), answer, 0);
        }
        due.is("without a counter", asked.on(new LentYouths(), 0, 0, 0, 0, 0), answer);
    }

    private static void outside(Due due, String name, Filled.Asked asked, boolean isLong) {
        long answer = isLong ? LOST : OUTSIDE;
        for (int lane : new int[] {-1, 3, MIN, MAX}) {
            Filled.changesNothing(due, name + ", lane " + lane, x -> asked.on(x, 0, 2, lane, 0, 1), answer, 0);
            Filled.changesNothing(due, name + ", beyond", x -> asked.on(x, 0, 3, lane, -1, 1), answer, 0);
        }
        for (int n : new int[] {-1, 21, 1 << 30, MIN, MAX}) {
            Filled.changesNothing(due, name + ", n " + n, x -> asked.on(x, 0, 2, 2, 0, n), answer, 0);
        }
    }

    private static void cast(Due due, String name, Filled.Asked asked, boolean isLong) {
        for (int k = 0; k < 3; k++) {
            for (int lane = 0; lane < 3; lane++) {
                int sheet = k;
                int as = lane;
                if (lane != k) {
                    Filled.changesNothing(due, name + ": " + k + " as " + lane,
                        x -> asked.on(x, 0, sheet, as, 0, 0), isLong ? LOST : CAST, 2);
                }
            }
        }
    }

    private static void nothing(Due due, String name, Filled.Asked asked, boolean isLong) {
        for (int lane = 0; lane < 3; lane++) {
            int as = lane;
            Filled.changesNothing(due, name + ": nothing as " + lane,
                x -> asked.on(x, 0, 3, as, 0, 0), isLong ? LOST : NULL, 1);
        }
    }

    private static void index(Due due, String name, Filled.Asked asked, boolean isLong) {
        int[][] beyond = {{-1, 0}, {9, 0}, {-1, 1}, {7, 1}, {8, 1}, {0, 5}, {6, 2}, {MAX, 20}, {MIN, 20},
            {MIN, 0}, {MAX, 0}};
        for (int[] b : beyond) {
            Filled.changesNothing(due, name + ": " + b[1] + " loans from " + b[0],
                x -> asked.on(x, 0, 2, 2, b[0], b[1]), isLong ? LOST : INDEX, 3);
        }
        LentYouths x = Filled.make();
        x.back(2);
        due.isTrue(name + ": none at the end", asked.on(x, 0, 2, 2, 8, 0) > 0);
        due.is("fault()", x.fault(), 0);
    }

    private static void cellsOfNobody(Due due, String name, Filled.Asked asked, boolean isLong) {
        for (int nobody : new int[] {-1, 4, 6, MIN, MAX}) {
            for (int i = 0; i < 4; i++) {
                LentYouths x = Due.at(Filled.FOUR);
                Due.row(x, 0, 0, 1, 2, 3);
                x.put(0, i, nobody);
                due.is(name + ": " + nobody + " in cell " + i, asked.on(x, 0, 0, 2, 0, 2), isLong ? LOST : UNKNOWN);
                due.is("fault()", x.fault(), 0);
            }
        }
        LentYouths x = Due.at(Filled.FOUR);
        Due.row(x, 0, 1, 1, 0, 4);
        due.is(name + ": behind a loan that can't be", asked.on(x, 0, 0, 2, 0, 2), isLong ? LOST : UNKNOWN);
    }

    private static void refusesAsTold(Due due, String name, Filled.Asked asked, boolean isLong) {
        unknown(due, name, asked, isLong);
        outside(due, name, asked, isLong);
        cast(due, name, asked, isLong);
        nothing(due, name, asked, isLong);
        index(due, name, asked, isLong);
        cellsOfNobody(due, name, asked, isLong);
    }

    private static long askTold(LentYouths x, int p, int sheet, int lane, int i, int n) {
        return x.told(p, sheet, lane, i, n, 0);
    }

    @Holds(where = "Promise 12", says = "UNKNOWN: PERSON, SHEET")
    static void toldOfNobody(Due due) {
        unknown(due, "told", BoundsOfReadings::askTold, false);
    }

    @Holds(where = "Promise 12", says = "OUTSIDE: lane, n, which")
    static void toldOutside(Due due) {
        outside(due, "told", BoundsOfReadings::askTold, false);
        for (int which : new int[] {-1, 2, MIN, MAX}) {
            Filled.changesNothing(due, "told, " + which, x -> x.told(0, 2, 2, 0, 1, which), OUTSIDE, 0);
        }
        LentYouths x = Due.at("k;t6369;t6369");
        int[] row = new int[40];
        for (int i = 0; i < 40; i++) {
            row[i] = i % 2;
        }
        Due.row(x, 0, row);
        // A twin of wear 9 lasts for twenty loans.
        toldIs(due, x, 0, 20, 63, 1);
    }

    @Holds(where = "Promise 12", says = "CAST")
    static void toldByAnotherLane(Due due) {
        cast(due, "told", BoundsOfReadings::askTold, false);
    }

    @Holds(where = "Promise 12", says = "NULL")
    static void toldByNothing(Due due) {
        nothing(due, "told", BoundsOfReadings::askTold, false);
    }

    @Holds(where = "Promise 12", says = "INDEX")
    static void toldByCellsBeyond(Due due) {
        index(due, "told", BoundsOfReadings::askTold, false);
    }

    @Holds(where = "Promise 12", says = "UNKNOWN: a cell is no PERSON")
    static void toldByNobodys(Due due) {
        cellsOfNobody(due, "told", BoundsOfReadings::askTold, false);
    }

    @Holds(where = "Promise 13", says = "KINDS by such LOANS, as a set")
    static void kinds(Due due) {
        LentYouths x = Due.at("k;s0361;c6269;c6269");
        Due.row(x, 0, 0, 1, 1, 2, 2, 2);
        kindsAre(due, x, 0, 0, 7);
        kindsAre(due, x, 0, 2, 7);
        kindsAre(due, x, 0, 3, 0);
        x.reading(2, 0, true);
        kindsAre(due, x, 0, 2, 6);
        kindsAre(due, x, 1, 2, 7);
        x.reading(2, 0, false);
        kindsAre(due, x, 0, 2, 0);
    }

    @Holds(where = "Promise 13", says = "As told(), without which")
    static void kindsRefuse(Due due) {
        refusesAsTold(due, "kinds", LentYouths::kinds, false);
    }

    @Holds(where = "Promise 14", says = "WEARS by such LOANS, as a set")
    static void wears(Due due) {
        LentYouths x = Due.at("k;s0361;c6269;c6269");
        Due.row(x, 0, 0, 1, 0, 1, 1, 2, 2, 1, 1, 1);
        wearsAre(due, x, 0, 0, 1022);
        wearsAre(due, x, 0, 4, 1022);
        wearsAre(due, x, 0, 5, 0);
        x.reading(1, 0, false);
        wearsAre(due, x, 0, 4, 0);
        x.back(1);
        Due.row(x, 0, 0, 1, 0, 1, 0, 2);
        x.reading(2, 0, true);
        wearsAre(due, x, 0, 3, 1020);
        x.reading(2, 0, false);
        wearsAre(due, x, 0, 3, 0);
    }

    @Holds(where = "Promise 14", says = "As told(), without which")
    static void wearsRefuse(Due due) {
        refusesAsTold(due, "wears", LentYouths::wears, false);
    }

    @Holds(where = "Promise 15", says = "ODDS by such LOANS (which 0 the upper, 1 the lower number)")
    static void odds(Due due) {
        LentYouths x = Due.at("k;c0109;c0109;c0209");
        Due.row(x, 0, 0, 1);
        share(due, x, 0, 0, 1, 2);
        share(due, x, 0, 1, 3, 4);
        share(due, x, 2, 1, 0, 1);
        x.want(2, 6);
        share(due, x, 2, 1, 1, 1);
        x.reading(0, 0, false);
        share(due, x, 0, 1, 3, 4);
    }

    @Holds(where = "Promise 15", says = "LOST: as told()")
    static void oddsRefuse(Due due) {
        refusesAsTold(due, "odds", (x, p, sheet, lane, i, n) -> x.odds(p, sheet, lane, i, n, 1), true);
        for (int which : new int[] {-1, 2, MIN, MAX}) {
            Filled.changesNothing(due, "odds, " + which, x -> x.odds(0, 2, 2, 0, 1, which), LOST, 0);
        }
    }

    @Holds(where = "Promise 15", says = "a FIRST WRONG, too")
    static void oddsOfWrongOnes(Due due) {
        LentYouths x = Due.at("k;c0069;c6369;c6369");
        Due.row(x, 0, 1, 2, 1, 1);
        share(due, x, 0, 1, 1, 1);
        due.is("with themselves", x.odds(0, 0, 2, 0, 2, 0), LOST);
        due.is("fault()", x.fault(), 0);
        Due.row(x, 0, 1, 2, 0, 1);
        due.is("without scenes", x.odds(2, 0, 2, 0, 2, 1), LOST);
        due.is("fault()", x.fault(), 0);
        x.put(0, 99, 0);
        due.is("without scenes again", x.odds(2, 0, 2, 0, 2, 1), LOST);
        due.is("fault() of a fault before", x.fault(), 0);
    }
}
