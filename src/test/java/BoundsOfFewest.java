/** The sentences on the fewest loans, the match and help, part 3 and promises 7 to 9. */
final class BoundsOfFewest {
    private static final int UNKNOWN = -1, OUTSIDE = -2, STATE = -3, NONE = -9;
    private static final int MIN = Filled.MIN, MAX = Filled.MAX;

    private BoundsOfFewest() { }

    private static void fewestAre(Due due, LentYouths x, int set, int... row) {
        due.is("how many for " + set, x.fewest(set, -1), row.length);
        for (int k = 0; k < 3; k++) {
            due.is("loan " + k + " for " + set, x.fewest(set, k), k < row.length ? row[k] : NONE);
        }
    }

    private static void fewestIsNone(Due due, LentYouths x, int set) {
        for (int k = -1; k < 3; k++) {
            due.is(k + " for " + set, x.fewest(set, k), NONE);
        }
    }

    private static void matches(Due due, LentYouths x, int most, int... gets) {
        due.is("how many are mended", x.match(-1), most);
        for (int p = 0; p < 6; p++) {
            due.is("what " + p + " gets", x.match(p), p < gets.length ? gets[p] : NONE);
        }
    }

    @Holds(where = "Terms 3", says = "FEWEST for a set of PEOPLE: the fewest LOANS that can be (3 at most; "
        + "no FIRST WRONG)")
    static void threeAtMost(Due due) {
        // Each odd person wants what the even one ahead of them alone has.
        LentYouths x = Due.at("k;c0169;c0809;c0269;c0819;c0469;c0829");
        fewestAre(due, x, 0);
        fewestAre(due, x, 0b000010, 1);
        fewestAre(due, x, 0b001010, 1, 23);
        fewestAre(due, x, 0b101010, 1, 23, 45);
        // 1 gets 0 from 0 .. 4, whoever has it then.
        Due.counter(x, "k;c0169;c6209;c6209;c6209;c6209;c6209");
        fewestAre(due, x, 0b000010, 1);
        fewestAre(due, x, 0b000110, 1, 12);
        fewestAre(due, x, 0b001110, 1, 12, 23);
        fewestIsNone(due, x, 0b011110);
        fewestIsNone(due, x, 0b111110);
        // Only who has scenes lends: 1's childhood has none, so that nobody comes to lend to 1.
        Due.counter(x, "k;c0169;c0009;c6209");
        fewestIsNone(due, x, 0b010);
        fewestAre(due, x, 0b100, 2);
        // Worn to nothing, childhood 0 is no more to be lent; 2 gets it before that.
        Due.counter(x, "k;c0161;c6209;c6209;c6269");
        fewestAre(due, x, 0b010, 1);
        fewestAre(due, x, 0b100, 2);
        fewestIsNone(due, x, 0b110);
        x.live(0, 0);
        fewestIsNone(due, x, 0b010);
        fewestAre(due, x, 0);
    }

    @Holds(where = "Terms 3", says = "behind which all of them are MENDED")
    static void allOfThem(Due due) {
        LentYouths x = Due.at("k;c0169;c0269;c0409;c0819;c1661");
        fewestAre(due, x, 0b00011);
        fewestAre(due, x, 0b10011);
        fewestAre(due, x, 0b00100, 2);
        fewestAre(due, x, 0b10100, 2);
        fewestAre(due, x, 0b01000, 13);
        fewestAre(due, x, 0b01100, 2, 13);
        fewestAre(due, x, 0b11111, 2, 13);
        x.want(1, 0);
        x.want(0, 1);
        // 0 and 1 mend one another; 2 and 3 get what those had.
        fewestAre(due, x, 0b01111, 1, 3, 12);
    }

    @Holds(where = "Terms 3", says = "how many, the row: of several the first as a row of 10 times one and "
        + "the other one, LOAN by LOAN")
    static void theFirstRow(Due due) {
        // Scene 0 is in 0's and in 5's, scene 1 in 1's and in 2's.
        LentYouths x = Due.at("k;c0169;c0269;c0269;c1609;c1619;c0169");
        fewestAre(due, x, 0b001000, 3);
        fewestAre(due, x, 0b010000, 14);
        fewestAre(due, x, 0b011000, 3, 14);
        x.live(0, 16);
        fewestAre(due, x, 0b001000, 35);
        fewestAre(due, x, 0b011000, 14, 35);
        x.live(1, 16);
        x.live(2, 16);
        x.live(5, 3);
        fewestAre(due, x, 0b011000, 35, 34);
        x.live(5, 1);
        x.live(2, 2);
        fewestAre(due, x, 0b011000, 24, 35);
        // 0 gets scene 3 from 3, 4 or 5, and 1 gets scene 2 from 2 or 5, in whichever order.
        Due.counter(x, "k;c0139;c0229;c0469;c0869;c0869;c1269");
        fewestAre(due, x, 0b000001, 3);
        fewestAre(due, x, 0b000010, 12);
        fewestAre(due, x, 0b000011, 3, 12);
        // Lesser loans are no help here.
        Due.counter(x, "k;c1669;c1669;c0119;c0209");
        fewestAre(due, x, 0b1100, 23);
    }

    @Holds(where = "Terms 3", says = "the first one of both with the lesser number")
    static void theLesserFirst(Due due) {
        LentYouths x = Due.at("k;c3209;c0161;c0261;c0461;c0861;c1651");
        fewestAre(due, x, 1, 1);
        fewestAre(due, x, 32, 5);
        x.want(4, 3);
        x.want(5, 3);
        fewestAre(due, x, 32, 45);
        x.want(0, 4);
        fewestAre(due, x, 1, 5);
    }

    @Holds(where = "Terms 3", says = "NONE: by none")
    static void byNone(Due due) {
        LentYouths x = Due.at("k;c0159;c0261;c0461");
        fewestIsNone(due, x, 1);
        fewestIsNone(due, x, 7);
        fewestAre(due, x, 6);
        x.live(2, 32);
        fewestAre(due, x, 1, 2);
        x.live(0, 0);
        fewestIsNone(due, x, 1);
    }

    @Holds(where = "Terms 3", says = "MATCH: each PERSON gets one CHILDHOOD, each CHILDHOOD goes to one")
    static void eachGetsOne(Due due) {
        // All want what 0's alone has, or what nobody has: the others get one each nevertheless.
        LentYouths x = Due.at("k;c0109;c0209;c0209;c0259;c0259;c0209");
        matches(due, x, 2, 1, 0, 2, 3, 4, 5);
        x.live(0, 0);
        x.want(0, 5);
        matches(due, x, 0, 0, 1, 2, 3, 4, 5);
    }

    @Holds(where = "Terms 3", says = "as they are told (nothing is WORN, it is no LOAN)")
    static void matchIsNoLoan(Due due) {
        // By a loan 0's childhood, that has none, could not be exchanged; nor do two get the same one.
        LentYouths x = Due.at("k;c0001;c0161;c0209");
        matches(due, x, 2, 0, 2, 1);
        x.want(2, 6);
        matches(due, x, 3, 1, 0, 2);
        fewestIsNone(due, x, 1);
        // All in a ring is one exchange of the match.
        Due.counter(x, "k;c0111;c0221;c0431;c0841;c1651;c3201");
        matches(due, x, 6, 1, 2, 3, 4, 5, 0);
    }

    @Holds(where = "Terms 3", says = "by which the most are MENDED (KNOWING their own SCENES, too)")
    static void theMost(Due due) {
        // 0 and 1 know already what they want, so that 2 may have either one's.
        LentYouths x = Due.at("k;c0301;c0311;c1601");
        matches(due, x, 3, 0, 2, 1);
        x.want(2, 5);
        matches(due, x, 2, 0, 1, 2);
        x.want(0, 5);
        x.want(1, 5);
        matches(due, x, 0, 0, 1, 2);
    }

    @Holds(where = "Terms 3", says = "of several the first as a row by PEOPLE")
    static void theFirstMatch(Due due) {
        LentYouths x = Due.at("k;c0161;c0161;c0161;c0161;c0161;c0161");
        matches(due, x, 6, 0, 1, 2, 3, 4, 5);
        // 3 wants what 0's alone has: all others come as early as they can.
        Due.counter(x, "k;c0261;c0161;c0161;c0111;c0161");
        matches(due, x, 5, 1, 2, 3, 0, 4);
        // Only one of 0 and 1 can be mended by 2's: with 0 first all are in their order behind.
        Due.counter(x, "k;c0111;c0111;c0261");
        matches(due, x, 2, 0, 2, 1);
        x.want(2, 0);
        matches(due, x, 2, 0, 2, 1);
    }

    @Holds(where = "Terms 3", says = "HELP of a PERSON: how many WANT a SCENE of their CHILDHOOD (as told) "
        + "that is not in their own one")
    static void helpOf(Due due) {
        LentYouths x = Due.at("k;c6361;c0001;c0011;c0021;c0031;c0051");
        int[] helps = {5, 0, 0, 0, 0, 0};
        for (int p = 0; p < 6; p++) {
            due.is("help of " + p, x.help(p), helps[p]);
        }
        x.live(1, 1);
        due.is("1 has it", x.help(0), 4);
        due.is("nobody else wants it", x.help(1), 0);
        x.want(2, 0);
        due.is("2 wants it now", x.help(1), 1);
        x.want(5, 6);
        due.is("5 wants none now", x.help(0), 3);
        x.live(0, 0);
        due.is("a childhood without scenes", x.help(0), 0);
        x.want(0, 0);
        due.is("0 and 2 want it", x.help(1), 2);
        x.live(0, 1);
        due.is("0 has it themselves", x.help(0), 1);
        due.is("so that 1's is no help to them", x.help(1), 1);
    }

    @Holds(where = "Promise 7", says = "FEWEST for a set of PEOPLE: how many (k -1), the k-th LOAN (0 .. "
        + "2): 10 times one, and the other one")
    static void howManyAndWhich(Due due) {
        LentYouths x = Due.at("k;c0109;c0209;c0409;c0809;c1659;c3249");
        fewestAre(due, x, 0b000001);
        fewestAre(due, x, 0b110000, 45);
        fewestAre(due, x, 0b000010, 1);
        fewestAre(due, x, 0b001110, 1, 12, 23);
        fewestAre(due, x, 0b111111 & ~0b001000, 1, 12, 45);
    }

    @Holds(where = "Promise 7", says = "NONE: there are fewer, none")
    static void fewerOrNone(Due due) {
        LentYouths x = Due.at("k;c0109;c0209;c0459");
        due.is("none is needed", x.fewest(1, -1), 0);
        due.is("so there is no first one", x.fewest(1, 0), NONE);
        due.is("one is needed", x.fewest(2, -1), 1);
        due.is("so there is no second one", x.fewest(2, 1), NONE);
        due.is("by none", x.fewest(4, -1), NONE);
        due.is("so there is no first one either", x.fewest(4, 0), NONE);
        due.is("nor a third one", x.fewest(4, 2), NONE);
    }

    @Holds(where = "Promise 7", says = "OUTSIDE: k, set")
    static void fewestOutside(Due due) {
        for (int people = 2; people <= 6; people++) {
            LentYouths x = Due.at("k" + ";c0069".repeat(people));
            for (int k : new int[] {-2, 3, 4, MIN, MAX}) {
                due.is("k " + k + " of " + people, x.fewest(0, k), OUTSIDE);
            }
            for (int set : new int[] {-1, 1 << people, (1 << people) + 1, 64, 1 << 30, MIN, MAX}) {
                due.is("set " + set + " of " + people, x.fewest(set, -1), OUTSIDE);
                due.is("set " + set + " of " + people + ", loan 2", x.fewest(set, 2), OUTSIDE);
            }
            due.is("all of " + people, x.fewest((1 << people) - 1, -1), 0);
            due.is("none of " + people, x.fewest(0, 2), NONE);
        }
    }

    @Holds(where = "Promise 7", says = "STATE: there is no COUNTER (ahead of OUTSIDE)")
    static void fewestWithoutCounter(Due due) {
        LentYouths x = new LentYouths();
        for (int k : new int[] {-2, -1, 0, 2, 3, MIN, MAX}) {
            for (int set : new int[] {-1, 0, 1, 64, MIN, MAX}) {
                due.is("set " + set + ", " + k, x.fewest(set, k), STATE);
            }
        }
    }

    @Holds(where = "Promise 8", says = "MATCH: how many are MENDED (p -1), whose CHILDHOOD PERSON p gets")
    static void matchTells(Due due) {
        LentYouths x = Due.at("k;c0111;c0201");
        matches(due, x, 2, 1, 0);
        Due.counter(x, "k;c0001;c0001");
        matches(due, x, 0, 0, 1);
        Due.counter(x, "k;c0141;c0251;c0431;c0831;c1601;c3211");
        matches(due, x, 6, 4, 5, 3, 2, 0, 1);
    }

    @Holds(where = "Promise 8", says = "NONE: there is no such PERSON")
    static void matchOfNobody(Due due) {
        for (int people = 2; people <= 6; people++) {
            LentYouths x = Due.at("k" + ";c0069".repeat(people));
            due.is("the last of " + people, x.match(people - 1), people - 1);
            for (int p : new int[] {people, people + 1, 6, MAX}) {
                due.is("person " + p + " of " + people, x.match(p), NONE);
            }
        }
    }

    @Holds(where = "Promise 8", says = "UNKNOWN: p below -1")
    static void matchBelow(Due due) {
        LentYouths x = Filled.make();
        for (int p : new int[] {-2, -3, MIN}) {
            due.is("with a counter, " + p, x.match(p), UNKNOWN);
            due.is("without one, " + p, new LentYouths().match(p), UNKNOWN);
        }
        due.is("-1", x.match(-1), 4);
    }

    @Holds(where = "Promise 8", says = "STATE: there is no COUNTER")
    static void matchWithoutCounter(Due due) {
        LentYouths x = new LentYouths();
        for (int p : new int[] {-1, 0, 1, 5, 6, MAX}) {
            due.is("match of " + p, x.match(p), STATE);
        }
    }

    @Holds(where = "Promise 9", says = "HELP")
    static void helpOfEach(Due due) {
        LentYouths x = Filled.make();
        int[] helps = {1, 0, 1, 0};
        for (int p = 0; p < 4; p++) {
            due.is("help of " + p, x.help(p), helps[p]);
        }
    }

    @Holds(where = "Promise 9", says = "UNKNOWN")
    static void helpOfNobody(Due due) {
        LentYouths x = Filled.make();
        for (int p : new int[] {-1, 4, 5, 6, MIN, MAX}) {
            due.is("help of " + p, x.help(p), UNKNOWN);
            due.is("without a counter, of " + p, new LentYouths().help(p), UNKNOWN);
        }
    }
}
