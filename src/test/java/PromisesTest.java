/** For each promise of the document: ordinary inputs, the edges that it names, and wrong inputs. */
public final class PromisesTest {
    private static final int UNKNOWN = -1, OUTSIDE = -2, STATE = -3, FULL = -4, NONE = -9;
    private static final int NULL = -11, CAST = -12, INDEX = -13, SIZE = -14;
    private static final int MIN = Integer.MIN_VALUE, MAX = Integer.MAX_VALUE;
    private static final long LOST = Long.MIN_VALUE;
    private static final String FOUR = "k;c0311;s0431;t0802;c4861";
    private static final Due due = new Due();

    public static void main(String[] args) {
        newObject();
        counterTakesTexts();
        counterTellsFirstFaults();
        counterRefuses();
        counterMakesAllAnew();
        ofPerson();
        live();
        want();
        loansAnswer();
        loansWear();
        loansThatCannotBe();
        loansRefuse();
        home();
        fewest();
        fewestIsTheFirst();
        match();
        help();
        reading();
        back();
        told();
        kinds();
        wears();
        readLoansRefuse();
        odds();
        oddsLost();
        sheet();
        lose();
        put();
        cell();
        copy();
        tell();
        hand();
        as();
        trace();
        fault();
        many();
        due.finish();
    }

    private static void newObject() {
        LentYouths x = new LentYouths();
        due.is("1: people", x.many(0), 0);
        due.is("1: readings", x.many(1), 0);
        due.is("1: fault", x.fault(), 0);
        due.is("1: trace", x.trace(), 0);
        for (int k = 0; k < 4; k++) {
            due.is("1: a sheet has nothing", x.lose(k), 0);
        }
        due.is("1: no person", x.ofPerson(0, 0), UNKNOWN);
    }

    private static void counterTakesTexts() {
        LentYouths x = new LentYouths();
        due.is("2: four", Due.counter(x, FOUR), 4);
        due.is("2: two", Due.counter(x, "k;c0001;t6369"), 2);
        due.is("2: nought scenes", x.ofPerson(0, 1), 0);
        due.is("2: all scenes", x.ofPerson(1, 1), 63);
        due.is("2: six", Due.counter(x, "k;c0001;c0001;c0001;c0001;c0001;c5956"), 6);
        due.is("2: 59 scenes", x.ofPerson(5, 1), 59);
        Due.row(x, 0, 0, 'k', ';', 's', '1', '9', '2', '3', ';', 'c', '3', '0', '4', '5', 77);
        due.is("2: from a place on", x.counter(0, 2, 1, 13), 2);
        due.is("2: kind", x.ofPerson(0, 0), 1);
        due.is("2: scenes", x.ofPerson(0, 1), 19);
        due.is("2: wanted", x.ofPerson(0, 2), 2);
        due.is("2: wear", x.ofPerson(0, 3), 3);
        due.is("2: the second one's", x.ofPerson(1, 1), 30);
    }

    private static void counterTellsFirstFaults() {
        LentYouths x = Due.at(FOUR);
        firstFault(x, "", 0);
        firstFault(x, "c", 0);
        firstFault(x, "k", 1);
        firstFault(x, "kk", 1);
        firstFault(x, "k;", 2);
        firstFault(x, "k;;", 2);
        firstFault(x, "k;k", 2);
        firstFault(x, "k;c", 3);
        firstFault(x, "k;c7", 3);
        firstFault(x, "k;c/", 3);
        firstFault(x, "k;c6", 4);
        firstFault(x, "k;c64", 4);
        firstFault(x, "k;c5:", 4);
        firstFault(x, "k;c5/", 4);
        firstFault(x, "k;c63", 5);
        firstFault(x, "k;c637", 5);
        firstFault(x, "k;c63/", 5);
        firstFault(x, "k;c636", 6);
        firstFault(x, "k;c6360", 6);
        firstFault(x, "k;c636:", 6);
        firstFault(x, "k;c6369", 7);
        firstFault(x, "k;c6369c", 7);
        firstFault(x, "k;c6369;", 8);
        firstFault(x, "k;c6369;c636", 12);
        firstFault(x, "k;c6369;c6369k", 13);
        firstFault(x, "k;c6369;c6369;", 14);
        firstFault(x, "k;c0001;c0001;c0001;c0001;c0001;c0001;", 37);
        firstFault(x, "k;c0001;c0001;c0001;c0001;c0001;c0001;c0001", 37);
        firstFault(x, "k;c0001;c0001;c0001;c0001;c0001;c0001x", 37);
        firstFault(x, "k;c0001;x0001;x", 8);
        due.is("2: nothing is changed", x.many(0), 4);
        due.is("2: of a person neither", x.ofPerson(2, 1), 8);
        Due.row(x, 0, 'k' + 256);
        due.is("2: a code that a byte would cut", x.counter(0, 2, 0, 1), -100);
    }

    private static void firstFault(LentYouths x, String text, int place) {
        due.is("2: " + text, Due.counter(x, text), -100 - place);
        due.is("2: it is no fault of the machine's", x.fault(), 0);
    }

    private static void counterRefuses() {
        LentYouths x = Due.at(FOUR);
        due.is("2: no such sheet", x.counter(4, 3, 0, -1), UNKNOWN);
        due.is("2: no such sheet below", x.counter(-1, 0, 0, 0), UNKNOWN);
        due.is("2: lane", x.counter(3, 3, 0, -1), OUTSIDE);
        due.is("2: lane below", x.counter(0, -1, 0, -1), OUTSIDE);
        due.is("2: a refusal is no fault", x.fault(), 0);
        due.is("2: cast", x.counter(3, 1, -1, -1), CAST);
        due.is("2: fault 2", x.fault(), 2);
        due.is("2: null", x.counter(0, 1, -1, -1), NULL);
        due.is("2: fault 1", x.fault(), 1);
        due.is("2: size", x.counter(3, 0, -1, -1), SIZE);
        due.is("2: least size", x.counter(3, 0, 0, MIN), SIZE);
        due.is("2: fault 4", x.fault(), 4);
        due.is("2: index below", x.counter(3, 0, -1, 0), INDEX);
        due.is("2: fault 3", x.fault(), 3);
        due.is("2: index beyond", x.counter(3, 0, 26, 0), INDEX);
        due.is("2: index at the end", x.counter(3, 0, 25, 0), -100);
        due.is("2: index by n", x.counter(3, 0, 1, 25), INDEX);
        due.is("2: index by much", x.counter(3, 0, 1, MAX), INDEX);
        due.is("2: index far", x.counter(3, 0, MAX, MAX), INDEX);
        due.is("2: nothing is changed", x.many(0), 4);
    }

    private static void counterMakesAllAnew() {
        LentYouths x = Due.at(FOUR);
        x.reading(0, 0, true);
        x.tell(0);
        Due.row(x, 0, 5);
        x.live(0, 9);
        due.is("2: anew", Due.counter(x, "k;c0311;s0431"), 2);
        due.is("2: no readings", x.many(1), 0);
        due.is("2: trace stays", x.trace(), 1);
        due.is("2: sheets stay", x.cell(0, 0, 2), 5);
        due.is("2: scenes as told", x.ofPerson(0, 1), 3);
        due.is("2: no third person", x.ofPerson(2, 0), UNKNOWN);
        x.reading(0, 0, true);
        Due.counter(x, "k");
        due.is("2: of a faulty text readings stay", x.many(1), 1);
    }

    private static void ofPerson() {
        LentYouths x = Due.at("k;c1124;s3554;t6369");
        int[][] people = {{0, 11, 2, 4, 4}, {1, 35, 5, 4, 5}, {2, 63, 6, 9, 20}};
        for (int p = 0; p < 3; p++) {
            for (int what = 0; what < 5; what++) {
                due.is("3: person " + p + ", " + what, x.ofPerson(p, what), people[p][what]);
            }
            due.is("3: what above", x.ofPerson(p, 5), OUTSIDE);
            due.is("3: what below", x.ofPerson(p, -1), OUTSIDE);
        }
        due.is("3: no person", x.ofPerson(3, 9), UNKNOWN);
        due.is("3: no person below", x.ofPerson(-1, 0), UNKNOWN);
    }

    private static void live() {
        LentYouths x = Due.at(FOUR);
        due.is("4: what they were", x.live(3, 63), 48);
        due.is("4: they became", x.ofPerson(3, 1), 63);
        due.is("4: none", x.live(3, 0), 63);
        due.is("4: outside", x.live(3, 64), OUTSIDE);
        due.is("4: below", x.live(3, -1), OUTSIDE);
        due.is("4: stays", x.ofPerson(3, 1), 0);
        due.is("4: another's stays", x.ofPerson(2, 1), 8);
        due.is("4: unknown", x.live(4, 64), UNKNOWN);
        due.is("4: unknown below", x.live(-1, 0), UNKNOWN);
    }

    private static void want() {
        LentYouths x = Due.at(FOUR);
        due.is("5: which they wanted", x.want(1, 6), 3);
        due.is("5: none now", x.want(1, 0), 6);
        due.is("5: outside", x.want(1, 7), OUTSIDE);
        due.is("5: below", x.want(1, -1), OUTSIDE);
        due.is("5: stays", x.ofPerson(1, 2), 0);
        due.is("5: unknown", x.want(4, 7), UNKNOWN);
        due.is("5: unknown below", x.want(-1, 0), UNKNOWN);
    }

    private static void loansAnswer() {
        LentYouths x = Due.at(FOUR);
        Due.row(x, 2, 99, 0, 2, 1, 0);
        // 0 gets {3} of 2, then 0 and 1 exchange {3} and {2}; 2 has {0, 1}.
        due.is("6: mended behind one", x.loans(2, 2, 1, 1, 0), 13);
        due.is("6: mended behind both", x.loans(2, 2, 1, 2, 0), 15);
        due.is("6: no wrong one", x.loans(2, 2, 1, 2, 1), NONE);
        due.is("6: first by which all are mended", x.loans(2, 2, 1, 2, 2), 1);
        due.is("6: one does not mend all", x.loans(2, 2, 1, 1, 2), NONE);
        due.is("6: home", x.loans(2, 2, 1, 2, 3), 2);
        int[] has = {1, 2, 0, 3};
        int[] knows = {15, 12, 11, 48};
        int[] left = {3, 4, 8, 48};
        for (int p = 0; p < 4; p++) {
            due.is("6: has " + p, x.loans(2, 2, 1, 2, 10 + p), has[p]);
            due.is("6: knows " + p, x.loans(2, 2, 1, 2, 20 + p), knows[p]);
            due.is("6: left " + p, x.loans(2, 2, 1, 2, 30 + p), left[p]);
        }
        for (int p = 4; p < 6; p++) {
            due.is("6: nobody has", x.loans(2, 2, 1, 2, 10 + p), NONE);
            due.is("6: nobody knows", x.loans(2, 2, 1, 2, 20 + p), NONE);
            due.is("6: of nobody is left", x.loans(2, 2, 1, 2, 30 + p), NONE);
        }
        due.is("6: no loans, at the end", x.loans(2, 2, 5, 0, 0), 9);
        x.want(1, 6);
        x.want(2, 6);
        due.is("6: all are mended without any loan", x.loans(2, 2, 1, 2, 2), NONE);
        due.is("6: nothing has changed by loans", x.ofPerson(0, 1), 3);
        mendedByTheMiddleOne();
    }

    private static void mendedByTheMiddleOne() {
        LentYouths x = Due.at("k;c0119;c0209;c0409");
        Due.row(x, 0, 0, 2, 0, 1, 1, 2);
        due.is("6: two want 0, loan 0 mends one", x.loans(0, 2, 0, 1, 0), 4);
        due.is("6: loan 1 mends who wants 1", x.loans(0, 2, 0, 2, 0), 5);
        due.is("6: loan 2 the last", x.loans(0, 2, 0, 3, 2), 2);
        x.want(1, 2);
        due.is("6: behind the middle one", x.loans(0, 2, 0, 3, 2), 1);
    }

    private static void loansWear() {
        LentYouths x = Due.at("k;c0761;s6361;t6361");
        Due.row(x, 0, 0, 1, 0, 1, 0, 1, 0, 1, 0, 1);
        int[] left0 = {7, 7, 6, 4, 0, -104};
        int[] left1 = {63, 63, 63, 62, 60, -104};
        for (int n = 0; n < 6; n++) {
            due.is("6: left in 0 behind " + n, x.loans(0, 2, 0, n, 30), left0[n]);
            due.is("6: left in 1 behind " + n, x.loans(0, 2, 0, n, 31), left1[n]);
        }
        due.is("6: the first wrong", x.loans(0, 2, 0, 5, 1), 4);
        // A twin of wear 1 lasts 4: the fifth loan wears it.
        Due.row(x, 1, 1, 2, 1, 2, 1, 2, 1, 2, 1, 2);
        due.is("6: a twin lasts 4", x.loans(1, 2, 0, 4, 32), 63);
        due.is("6: and no more", x.loans(1, 2, 0, 5, 32), 62);
        LentYouths y = Due.at("k;c0161;c6261");
        Due.row(y, 0, 0, 1, 0, 1);
        due.is("6: what is worn with a loan is not known by it", y.loans(0, 2, 0, 2, 20), 63);
        Due.counter(y, "k;c0361;c0261;c6061");
        Due.row(y, 0, 0, 1, 0, 2);
        due.is("6: 2 gets childhood 1 worn to nothing", y.loans(0, 2, 0, 2, 22), 60);
        due.is("6: it is so", y.loans(0, 2, 0, 2, 31), 0);
        due.is("6: worn is not forgotten", y.loans(0, 2, 0, 2, 20), 63);
    }

    private static void loansThatCannotBe() {
        LentYouths x = Due.at("k;c0111;c0001;c0401");
        Due.row(x, 0, 0, 2, 2, 2, 0, 1);
        due.is("6: one is fine", x.loans(0, 2, 0, 1, 1), NONE);
        due.is("6: with themselves", x.loans(0, 2, 0, 3, 1), 1);
        for (int what : new int[] {0, 2, 3, 10, 15, 20, 25, 30, 35}) {
            due.is("6: " + what + " of wrong ones", x.loans(0, 2, 0, 3, what), -101);
        }
        due.is("6: the second has no scenes", x.loans(0, 2, 4, 1, 1), 0);
        due.is("6: no machine's fault", x.fault(), 0);
        Due.row(x, 0, 1, 2);
        due.is("6: the first has no scenes", x.loans(0, 2, 0, 1, 0), -100);
    }

    private static void loansRefuse() {
        LentYouths x = new LentYouths();
        due.is("6: no such sheet", x.loans(4, 3, 0, 21, 4), UNKNOWN);
        due.is("6: outside ahead of state", x.loans(0, 3, 0, 0, 0), OUTSIDE);
        due.is("6: state ahead of null", x.loans(0, 0, 0, 0, 0), STATE);
        Due.counter(x, FOUR);
        due.is("6: null", x.loans(0, 0, -1, 0, 0), NULL);
        due.is("6: fault 1", x.fault(), 1);
        due.is("6: n below is outside", x.loans(0, 0, 0, -1, 0), OUTSIDE);
        due.is("6: fault 0", x.fault(), 0);
        due.is("6: n above is outside", x.loans(0, 0, 0, 21, 0), OUTSIDE);
        for (int what : new int[] {-1, 4, 9, 16, 19, 26, 29, 36, 40, MIN, MAX}) {
            due.is("6: what " + what, x.loans(0, 0, 0, 0, what), OUTSIDE);
        }
        due.is("6: cast", x.loans(3, 1, -1, 0, 0), CAST);
        due.is("6: index below", x.loans(3, 0, -1, 0, 0), INDEX);
        due.is("6: index beyond", x.loans(3, 0, 26, 0, 0), INDEX);
        due.is("6: index behind all", x.loans(3, 0, 25, 0, 0), 9);
        due.is("6: half a pair beyond", x.loans(3, 0, 24, 1, 0), INDEX);
        due.is("6: far", x.loans(3, 0, MAX, 20, 0), INDEX);
        due.is("6: fault 3", x.fault(), 3);
        Due.row(x, 0, 0, 0, 0, 4);
        due.is("6: no person, behind a wrong loan", x.loans(0, 2, 0, 2, 1), UNKNOWN);
        due.is("6: refused", x.fault(), 0);
        Due.row(x, 0, 0, -1);
        due.is("6: no person below", x.loans(0, 2, 0, 1, 0), UNKNOWN);
        Due.row(x, 0, new int[41]);
        due.is("6: twenty are taken", x.loans(0, 2, 1, 20, 1), 0);
        due.is("6: twenty beyond", x.loans(0, 2, 2, 20, 1), INDEX);
    }

    private static void home() {
        LentYouths x = Due.at("k;c6369;c6369;c6369;c6369;c6369;c6369");
        Due.row(x, 0, 0, 1, 2, 3, 4, 5, 1, 2, 3, 4, 1, 2);
        int[] loans = {0, 1, 2, 3, 4, 5, 4};
        for (int n = 0; n < loans.length; n++) {
            due.is("6: home behind " + n, x.loans(0, 2, 0, n, 3), loans[n]);
        }
        Due.row(x, 0, 0, 1, 1, 0);
        due.is("6: both ways alike", x.loans(0, 2, 0, 2, 3), 0);
    }

    private static void fewest() {
        LentYouths x = new LentYouths();
        due.is("7: state ahead of outside", x.fewest(-1, 3), STATE);
        Due.counter(x, FOUR);
        due.is("7: k above", x.fewest(0, 3), OUTSIDE);
        due.is("7: k below", x.fewest(0, -2), OUTSIDE);
        due.is("7: set above", x.fewest(16, -1), OUTSIDE);
        due.is("7: set below", x.fewest(-1, -1), OUTSIDE);
        fewestAre(x, 0);
        fewestAre(x, 9);
        fewestAre(x, 2, 12);
        fewestAre(x, 15, 2, 1);
        x.want(1, 0);
        x.want(2, 4);
        fewestAre(x, 6, 1, 23);
        x.live(3, 0);
        due.is("7: by none", x.fewest(4, -1), NONE);
        due.is("7: and no row", x.fewest(4, 0), NONE);
        x.reading(0, 0, false);
        due.is("7: fewest names no fault", x.fault(), 0);
    }

    private static void fewestAre(LentYouths x, int set, int... row) {
        due.is("7: how many for " + set, x.fewest(set, -1), row.length);
        for (int k = 0; k < 3; k++) {
            due.is("7: loan " + k + " for " + set, x.fewest(set, k), k < row.length ? row[k] : NONE);
        }
    }

    private static void fewestIsTheFirst() {
        // 1 .. 4 want the scenes of one another; nobody needs 0.
        LentYouths x = Due.at("k;c3269;c0119;c0209;c0439;c0829");
        fewestAre(x, 31, 12, 34);
        // Childhood 0 lasts for one loan, and has scene 0 worn off by the second.
        Due.counter(x, "k;c0361;c0401;c0801;c1601");
        due.is("7: worn off ahead of the second", x.fewest(6, -1), NONE);
        Due.counter(x, "k;c0363;c0409;c0809;c1609");
        fewestAre(x, 14, 1, 12, 23);
        Due.counter(x, "k;c0363;c0409;c0809;c0009");
        fewestAre(x, 6, 1, 12);
        due.is("7: without scenes none can lend", x.fewest(14, -1), NONE);
        // Four more wants than three loans can mend.
        Due.counter(x, "k;c0169;c0209;c0209;c0209;c0209;c0209");
        due.is("7: four loans are too many", x.fewest(30, -1), NONE);
        fewestAre(x, 28, 2, 23, 34);
        fewestAre(x, 56, 3, 34, 45);
        // Scene 0 is in childhood 4, so that 1 gets it ahead of 5.
        Due.counter(x, "k;c0269;c0209;c0269;c0269;c0169;c0209");
        fewestAre(x, 34, 14, 15);
    }

    private static void match() {
        LentYouths x = new LentYouths();
        due.is("8: unknown ahead of state", x.match(-2), UNKNOWN);
        due.is("8: state", x.match(-1), STATE);
        due.is("8: state ahead of none", x.match(9), STATE);
        Due.counter(x, FOUR);
        matches(x, 4, 1, 2, 0, 3);
        Due.counter(x, "k;c0161;c0261;c0461");
        matches(x, 3, 0, 1, 2);
        Due.counter(x, "k;c0121;c0221;c0461");
        matches(x, 2, 0, 2, 1);
        Due.counter(x, "k;c0141;c0251;c0431;c0831;c1601;c3211");
        matches(x, 6, 4, 5, 3, 2, 0, 1);
        Due.counter(x, "k;c0001;c0001");
        matches(x, 0, 0, 1);
        due.is("8: unknown", x.match(MIN), UNKNOWN);
    }

    private static void matches(LentYouths x, int most, int... gets) {
        due.is("8: most", x.match(-1), most);
        for (int p = 0; p <= 6; p++) {
            due.is("8: gets " + p, x.match(p), p < gets.length ? gets[p] : NONE);
        }
    }

    private static void help() {
        LentYouths x = new LentYouths();
        due.is("9: nobody", x.help(0), UNKNOWN);
        Due.counter(x, "k;c0311;s0201;t0801;c0461;c6301");
        due.is("9: two want 0, that they have not", x.help(0), 2);
        due.is("9: none wants 1 but who has it", x.help(1), 0);
        due.is("9: none wants 3", x.help(2), 0);
        due.is("9: who wants none is not helped", x.help(3), 0);
        due.is("9: two of all", x.help(4), 2);
        due.is("9: unknown", x.help(5), UNKNOWN);
        due.is("9: unknown below", x.help(-1), UNKNOWN);
        Due.counter(x, "k;c0151;c3261");
        due.is("9: person 0 is helped by 1", x.help(1), 1);
        due.is("9: who was there ahead of this counter is not", x.help(0), 0);
    }

    private static void reading() {
        LentYouths x = new LentYouths();
        due.is("10: no person", x.reading(0, 0, true), UNKNOWN);
        Due.counter(x, FOUR);
        due.is("10: no scene", x.reading(0, 6, true), UNKNOWN);
        due.is("10: no scene below", x.reading(0, -1, true), UNKNOWN);
        due.is("10: no person above", x.reading(4, 0, true), UNKNOWN);
        for (int k = 0; k < 8; k++) {
            due.is("10: its number", x.reading(3, 5, k % 2 == 0), k);
        }
        due.is("10: full", x.reading(3, 5, true), FULL);
        due.is("10: unknown ahead of full", x.reading(4, 5, true), UNKNOWN);
        due.is("10: unknown scene ahead of full", x.reading(3, 6, true), UNKNOWN);
        due.is("10: eight", x.many(1), 8);
    }

    private static void back() {
        LentYouths x = new LentYouths();
        due.is("11: none", x.back(0), 0);
        due.is("11: more than none", x.back(1), OUTSIDE);
        Due.counter(x, FOUR);
        Due.row(x, 0, 0, 1);
        x.reading(0, 5, true);
        x.reading(0, 4, true);
        x.reading(0, 3, true);
        due.is("11: below", x.back(-1), OUTSIDE);
        due.is("11: above", x.back(4), OUTSIDE);
        due.is("11: none back", x.back(0), 3);
        due.is("11: the last two", x.back(2), 1);
        due.is("11: the first stays", x.told(0, 0, 2, 0, 0, 1), 32);
        due.is("11: the next number", x.reading(0, 0, false), 1);
        due.is("11: all", x.back(2), 0);
        due.is("11: none holds any more", x.told(0, 0, 2, 0, 0, 0), 64);
    }

    private static void told() {
        LentYouths x = Due.at(FOUR);
        Due.row(x, 0, 0, 1, 1, 2, 2, 2);
        due.is("12: all sets without loans", x.told(0, 0, 2, 0, 0, 0), 64);
        due.is("12: the least is nought", x.told(0, 0, 2, 0, 0, 1), 0);
        due.is("12: no loan without scenes", x.told(0, 0, 2, 0, 1, 0), 63);
        due.is("12: the least is one", x.told(0, 0, 2, 0, 1, 1), 1);
        due.is("12: none by wrong loans", x.told(0, 0, 2, 0, 3, 0), 0);
        due.is("12: and no least", x.told(0, 0, 2, 0, 3, 1), NONE);
        x.reading(1, 1, true);
        x.reading(1, 4, false);
        due.is("12: with 1, without 4", x.told(0, 0, 2, 0, 1, 0), 16);
        due.is("12: the least is two", x.told(0, 0, 2, 0, 1, 1), 2);
        // Childhood 0 lasts for one loan, so that 2 gets it without its least scene.
        x.back(2);
        x.reading(2, 1, true);
        x.reading(2, 0, false);
        due.is("12: worn ones", x.told(0, 0, 2, 0, 2, 0), 16);
        due.is("12: the least of them", x.told(0, 0, 2, 0, 2, 1), 3);
        x.live(0, 0);
        due.is("12: that they can't be as it is does not matter", x.told(0, 0, 2, 0, 2, 0), 16);
        x.reading(2, 0, true);
        due.is("12: readings that clash", x.told(0, 0, 2, 0, 2, 0), 0);
        due.is("12: it stays as it is", x.ofPerson(0, 1), 0);
        Due.counter(x, "k;c0161;c0161");
        x.reading(0, 0, false);
        due.is("12: 0 knows it by 1's, whatever their own was", x.told(0, 0, 2, 0, 1, 0), 0);
        due.is("12: unless there is no loan", x.told(0, 0, 2, 0, 0, 0), 32);
    }

    private static void kinds() {
        LentYouths x = Due.at("k;c0361;c1261");
        Due.row(x, 0, 0, 1, 0, 1, 0, 1, 0, 1);
        due.is("13: all without readings", x.kinds(0, 0, 2, 0, 1), 7);
        due.is("13: three loans wear a childhood off", x.kinds(0, 0, 2, 0, 3), 7);
        due.is("13: four need more of the other one", x.kinds(0, 0, 2, 0, 4), 0);
        x.live(1, 63);
        due.is("13: four need a kind that lasts", x.kinds(0, 0, 2, 0, 4), 6);
        // Person 2 gets it by its second loan, worn if it is a childhood.
        Due.counter(x, "k;c0361;c0463;c0863");
        Due.row(x, 0, 0, 1, 1, 2);
        x.reading(2, 0, false);
        due.is("13: worn, so a childhood", x.kinds(0, 0, 2, 0, 2), 1);
        x.back(1);
        x.reading(2, 0, true);
        due.is("13: not worn, so none", x.kinds(0, 0, 2, 0, 2), 6);
        due.is("13: another's kind", x.kinds(1, 0, 2, 0, 2), 0);
        due.is("13: it stays as it is", x.ofPerson(0, 0), 0);
        Due.counter(x, "k;c0361;c6369;c6369");
        Due.row(x, 0, 0, 1, 1, 0, 0, 2);
        x.reading(2, 0, true);
        due.is("13: what 2 knows alone tells none", x.kinds(0, 0, 2, 0, 3), 7);
        x.live(2, 62);
        x.live(1, 62);
        due.is("13: lent thrice, 2 knows 0", x.kinds(0, 0, 2, 0, 3), 4);
    }

    private static void wears() {
        LentYouths x = Due.at("k;c0361;c6269;c6269");
        Due.row(x, 0, 0, 1, 0, 1, 0, 2);
        due.is("14: all without readings", x.wears(0, 0, 2, 0, 1), 1022);
        x.reading(2, 0, true);
        due.is("14: three or more", x.wears(0, 0, 2, 0, 3), 1016);
        x.back(1);
        x.reading(2, 0, false);
        due.is("14: less than three", x.wears(0, 0, 2, 0, 3), 6);
        due.is("14: none by two", x.wears(1, 0, 2, 0, 0), 1022);
        due.is("14: it stays as it is", x.ofPerson(0, 3), 1);
        Due.counter(x, "k;s0361;c6269;c6269");
        x.reading(2, 0, true);
        due.is("14: a sad one's lasts one more", x.wears(0, 0, 2, 0, 3), 1020);
        Due.counter(x, "k;t0361;c6269;c6269");
        x.reading(2, 0, true);
        due.is("14: a twin's lasts four or more", x.wears(0, 0, 2, 0, 3), 1022);
        x.back(1);
        x.reading(2, 0, false);
        due.is("14: so none", x.wears(0, 0, 2, 0, 3), 0);
    }

    private static void readLoansRefuse() {
        LentYouths x = new LentYouths();
        readLoansAre(x, "no counter", 0, 0, 0, 0, 0, UNKNOWN, 0);
        Due.counter(x, FOUR);
        readLoansAre(x, "person", 4, 0, 3, 0, 21, UNKNOWN, 0);
        readLoansAre(x, "person below", -1, 0, 0, 0, 0, UNKNOWN, 0);
        readLoansAre(x, "sheet", 0, 4, 3, 0, 0, UNKNOWN, 0);
        readLoansAre(x, "sheet below", 0, -1, 0, 0, 0, UNKNOWN, 0);
        readLoansAre(x, "lane", 0, 0, 3, 0, 0, OUTSIDE, 0);
        readLoansAre(x, "n above", 0, 0, 0, 0, 21, OUTSIDE, 0);
        readLoansAre(x, "n below", 0, 0, 0, 0, -1, OUTSIDE, 0);
        readLoansAre(x, "null", 0, 0, 0, -1, 0, NULL, 1);
        readLoansAre(x, "cast", 0, 3, 2, -1, 0, CAST, 2);
        readLoansAre(x, "index below", 0, 3, 0, -1, 0, INDEX, 3);
        readLoansAre(x, "index beyond", 0, 3, 0, 26, 0, INDEX, 3);
        readLoansAre(x, "index by n", 0, 3, 0, 24, 1, INDEX, 3);
        readLoansAre(x, "no person", 0, 3, 0, 0, 1, UNKNOWN, 0);
        due.is("12: which above", x.told(0, 0, 0, 0, 0, 2), OUTSIDE);
        due.is("12: which below", x.told(0, 0, 0, 0, 0, -1), OUTSIDE);
        due.is("15: which above", x.odds(0, 3, 0, 0, 0, 2), LOST);
        due.is("15: which below", x.odds(0, 3, 0, 0, 0, -1), LOST);
        Due.row(x, 0, new int[40]);
        due.is("12: twenty", x.told(0, 0, 2, 0, 20, 0), 0);
    }

    private static void readLoansAre(LentYouths x, String why, int p, int sheet, int lane, int i, int n,
            int answer, int fault) {
        due.is("12: " + why, x.told(p, sheet, lane, i, n, 0), answer);
        due.is("12: fault of " + why, x.fault(), fault);
        due.is("13: " + why, x.kinds(p, sheet, lane, i, n), answer);
        due.is("13: fault of " + why, x.fault(), fault);
        due.is("14: " + why, x.wears(p, sheet, lane, i, n), answer);
        due.is("14: fault of " + why, x.fault(), fault);
        due.is("15: " + why, x.odds(p, sheet, lane, i, n, 0), LOST);
        due.is("15: fault of " + why, x.fault(), fault);
    }

    private static void odds() {
        LentYouths x = Due.at("k;c0309;c0309;c0219;c0569;c0459;c0109");
        Due.row(x, 0, 0, 1, 0, 1, 0, 3, 5, 0);
        share(x, 0, 0, 1, 2);
        share(x, 0, 1, 3, 4);
        share(x, 0, 2, 3, 4);
        share(x, 0, 3, 7, 8);
        share(x, 0, 4, 15, 16);
        share(x, 1, 4, 3, 4);
        share(x, 2, 4, 1, 2);
        share(x, 3, 4, 1, 1);
        share(x, 4, 4, 0, 1);
        share(x, 5, 3, 1, 2);
        share(x, 5, 4, 3, 4);
        // Six childhoods all show scene 0 to person 0.
        Due.counter(x, "k;c0109;c0109;c0109;c0109;c0109;c0109");
        Due.row(x, 0, 0, 1, 0, 2, 0, 3, 0, 4, 0, 5);
        share(x, 0, 5, 63, 64);
        // What is worn off with the loan is not known by it.
        Due.counter(x, "k;c0361;c0461;c0801");
        Due.row(x, 0, 0, 1, 1, 2);
        share(x, 2, 2, 0, 1);
        // What was known of it ahead of that stays known.
        x.want(1, 0);
        share(x, 1, 2, 1, 2);
        // So it does if they have the childhood again, with less in it.
        Due.counter(x, "k;c0361;c1209");
        Due.row(x, 0, 0, 1, 0, 1, 0, 1);
        share(x, 1, 3, 1, 2);
    }

    private static void share(LentYouths x, int p, int n, int upper, int lower) {
        due.is("15: upper of " + p + " behind " + n, x.odds(p, 0, 2, 0, n, 0), upper);
        due.is("15: lower of " + p + " behind " + n, x.odds(p, 0, 2, 0, n, 1), lower);
        due.is("15: no fault", x.fault(), 0);
    }

    private static void oddsLost() {
        LentYouths x = Due.at(FOUR);
        Due.row(x, 0, 0, 1, 2, 2);
        due.is("15: can be", x.odds(3, 0, 2, 0, 1, 0), 1);
        due.is("15: a first wrong", x.odds(3, 0, 2, 0, 2, 0), LOST);
        due.is("15: it is no fault", x.fault(), 0);
        x.reading(0, 5, true);
        due.is("15: readings do not matter", x.odds(0, 0, 2, 0, 0, 1), 2);
    }

    private static void sheet() {
        LentYouths x = new LentYouths();
        due.is("16: unknown", x.sheet(4, 3, -1), UNKNOWN);
        due.is("16: unknown below", x.sheet(-1, 0, 0), UNKNOWN);
        due.is("16: lane", x.sheet(0, 3, -1), OUTSIDE);
        due.is("16: lane below", x.sheet(0, -1, 0), OUTSIDE);
        due.is("16: n above", x.sheet(0, 0, 61), OUTSIDE);
        due.is("16: nothing yet", x.lose(0), 0);
        due.is("16: size", x.sheet(0, 0, -1), SIZE);
        due.is("16: fault 4", x.fault(), 4);
        due.is("16: nothing still", x.lose(0), 0);
        due.is("16: sixty", x.sheet(0, 2, 60), 1);
        due.is("16: fault 0", x.fault(), 0);
        due.is("16: the last is 0", x.cell(0, 59, 2), 0);
        x.put(0, 59, 7);
        x.put(0, 0, 7);
        x.sheet(0, 1, 60);
        due.is("16: a new row is of nought", x.cell(0, 0, 1), 0);
        due.is("16: a new row is of its lane", x.cell(0, 59, 1), 0);
        due.is("16: none", x.sheet(0, 0, 0), 1);
        due.is("16: a row of none is something", x.cell(0, 0, 0), LOST);
        due.is("16: so it is no null", x.fault(), 3);
        x.put(0, 0, 1);
        due.is("16: and has no cell", x.fault(), 3);
    }

    private static void lose() {
        LentYouths x = new LentYouths();
        due.is("17: unknown", x.lose(4), UNKNOWN);
        due.is("17: unknown below", x.lose(-1), UNKNOWN);
        x.sheet(2, 0, 0);
        due.is("17: it had a row of none", x.lose(2), 1);
        due.is("17: and has nothing now", x.lose(2), 0);
        x.put(2, 0, 0);
        due.is("17: null", x.fault(), 1);
        x.lose(2);
        due.is("17: lose names no fault", x.fault(), 1);
        x.lose(9);
        due.is("17: refused neither", x.fault(), 1);
    }

    private static void put() {
        LentYouths x = new LentYouths();
        due.is("18: unknown", x.put(4, 0, 0), UNKNOWN);
        due.is("18: unknown below", x.put(-1, 0, 0), UNKNOWN);
        due.is("18: null", x.put(0, -1, 0), NULL);
        for (int lane = 0; lane < 3; lane++) {
            x.sheet(lane, lane, 2);
            due.is("18: taken", x.put(lane, 1, 0x12348081), 1);
            due.is("18: below", x.put(lane, -1, 9), INDEX);
            due.is("18: beyond", x.put(lane, 2, 9), INDEX);
            due.is("18: far", x.put(lane, MAX, 9), INDEX);
            due.is("18: fault 3", x.fault(), 3);
            due.is("18: the other cell", x.cell(lane, 0, lane), 0);
        }
        due.is("18: cut to a byte", x.cell(0, 1, 0), -127);
        due.is("18: cut to a short", x.cell(1, 1, 1), -32639);
        due.is("18: an int", x.cell(2, 1, 2), 0x12348081);
        x.put(0, 0, 128);
        due.is("18: 128 as a byte", x.cell(0, 0, 0), -128);
        x.put(1, 0, -32769);
        due.is("18: -32769 as a short", x.cell(1, 0, 1), 32767);
    }

    private static void cell() {
        LentYouths x = new LentYouths();
        due.is("19: unknown", x.cell(4, 0, 0), LOST);
        due.is("19: fault 0", x.fault(), 0);
        due.is("19: null", x.cell(0, -1, 0), LOST);
        due.is("19: fault 1", x.fault(), 1);
        due.is("19: lane", x.cell(0, 0, 3), LOST);
        due.is("19: outside is no fault", x.fault(), 0);
        Due.row(x, 0, 5, -6);
        due.is("19: cell 0", x.cell(0, 0, 2), 5);
        due.is("19: cell 1", x.cell(0, 1, 2), -6);
        due.is("19: cast", x.cell(0, 9, 1), LOST);
        due.is("19: fault 2", x.fault(), 2);
        due.is("19: beyond", x.cell(0, 2, 2), LOST);
        due.is("19: fault 3", x.fault(), 3);
        due.is("19: below", x.cell(0, -1, 2), LOST);
        due.is("19: fault 3 again", x.fault(), 3);
        due.is("19: lane below", x.cell(0, 0, -1), LOST);
        due.is("19: fault 0 again", x.fault(), 0);
    }

    private static void copy() {
        LentYouths x = new LentYouths();
        due.is("20: unknown", x.copy(4, 0, 0, 0, 0), UNKNOWN);
        due.is("20: the other unknown", x.copy(0, 0, -1, 0, 0), UNKNOWN);
        Due.row(x, 0, 1, 2, 3, 4, 5);
        due.is("20: the other null", x.copy(0, 9, 1, 9, -1), NULL);
        due.is("20: the first null", x.copy(1, 0, 0, 0, 0), NULL);
        due.is("20: fault 1", x.fault(), 1);
        x.sheet(1, 1, 5);
        due.is("20: cast", x.copy(0, 9, 1, 9, -1), CAST);
        due.is("20: fault 2", x.fault(), 2);
        Due.row(x, 2, 7, 8, 9);
        due.is("20: two", x.copy(2, 1, 0, 3, 2), 2);
        cellsAre(x, 0, 1, 2, 3, 8, 9);
        due.is("20: up within one", x.copy(0, 0, 0, 1, 4), 4);
        cellsAre(x, 0, 1, 1, 2, 3, 8);
        due.is("20: down within one", x.copy(0, 1, 0, 0, 4), 4);
        cellsAre(x, 0, 1, 2, 3, 8, 8);
        due.is("20: none at the end", x.copy(0, 5, 2, 3, 0), 0);
        due.is("20: fault 0", x.fault(), 0);
        int[][] beyond = {{-1, 0, 1}, {0, -1, 1}, {0, 0, -1}, {4, 0, 2}, {0, 2, 2}, {6, 0, 0}, {0, 4, 0},
            {0, 0, 4}, {MAX, 0, 1}, {1, 0, MAX}, {0, MIN, 0}};
        for (int[] b : beyond) {
            due.is("20: index " + b[0] + ", " + b[1] + ", " + b[2], x.copy(0, b[0], 2, b[1], b[2]), INDEX);
            due.is("20: fault 3", x.fault(), 3);
        }
        cellsAre(x, 2, 7, 8, 9);
    }

    private static void cellsAre(LentYouths x, int sheet, int... numbers) {
        for (int i = 0; i < numbers.length; i++) {
            due.is("20: cell " + i, x.cell(sheet, i, 2), numbers[i]);
        }
    }

    private static void tell() {
        LentYouths x = Due.at("k;c0004;s0005;t0006");
        due.is("21: of a childhood", x.tell(0), 4);
        due.is("21: its trace", x.trace(), 1);
        due.is("21: of a sad one", x.tell(1), 105);
        due.is("21: its trace", x.trace(), (31 * 1 + 2) * 31 + 1);
        LentYouths y = Due.at("k;c0004;s0005;t0006");
        due.is("21: of a twin", y.tell(2), 112);
        due.is("21: its trace", y.trace(), ((3 * 31 + 2) * 31 + 1) * 31 + 1);
        due.is("21: unknown", y.tell(3), UNKNOWN);
        due.is("21: unknown below", y.tell(-1), UNKNOWN);
        due.is("21: and no trace", y.trace(), ((3 * 31 + 2) * 31 + 1) * 31 + 1);
    }

    private static void hand() {
        LentYouths x = Due.at("k;t0004;s0005;c0006");
        due.is("22: of a childhood", x.hand(2), 2);
        due.is("22: its trace", x.trace(), 4);
        due.is("22: of a sad one", x.hand(1), 1);
        due.is("22: its trace", x.trace(), 4 * 31 + 4);
        due.is("22: of a twin", x.hand(0), 40);
        due.is("22: its trace", x.trace(), (4 * 31 + 4) * 31 + 5);
        due.is("22: unknown", x.hand(3), UNKNOWN);
        due.is("22: unknown below", x.hand(-1), UNKNOWN);
        due.is("22: and no trace", x.trace(), (4 * 31 + 4) * 31 + 5);
    }

    private static void as() {
        LentYouths x = Due.at("k;c0004;s0005;t0006");
        for (int p = 0; p < 3; p++) {
            for (int kind = 0; kind < 3; kind++) {
                due.is("23: " + p + " as " + kind, x.as(p, kind), kind <= p ? 1 : CAST);
                due.is("23: fault", x.fault(), kind <= p ? 0 : 2);
            }
        }
        x.as(0, 1);
        due.is("23: kind above", x.as(0, 3), OUTSIDE);
        due.is("23: refused", x.fault(), 0);
        due.is("23: kind below", x.as(0, -1), OUTSIDE);
        due.is("23: unknown", x.as(3, 3), UNKNOWN);
        due.is("23: unknown below", x.as(-1, 0), UNKNOWN);
    }

    private static void trace() {
        LentYouths x = Due.at("k;c0004;t0006");
        int trace = 0;
        for (int round = 0; round < 20; round++) {
            x.hand(1);
            trace = 31 * trace + 5;
            x.tell(0);
            trace = 31 * trace + 1;
        }
        due.is("24: wraps", x.trace(), trace);
        x.as(1, 2);
        Due.counter(x, "k;c0004;t0006");
        due.is("24: stays", x.trace(), trace);
    }

    private static void fault() {
        LentYouths x = new LentYouths();
        x.put(0, 0, 0);
        due.is("25: null", x.fault(), 1);
        x.many(0);
        x.ofPerson(0, 0);
        x.live(0, 0);
        x.want(0, 0);
        x.fewest(0, 0);
        x.match(0);
        x.help(0);
        x.reading(0, 0, true);
        x.back(1);
        x.lose(0);
        x.tell(0);
        x.hand(0);
        x.trace();
        due.is("25: calls that name none", x.fault(), 1);
        x.put(9, 0, 0);
        due.is("25: refused", x.fault(), 0);
        for (int call = 0; call < 11; call++) {
            x.put(0, 0, 0);
            due.is("25: null again", x.fault(), 1);
            refuse(x, call);
            due.is("25: refused by call " + call, x.fault(), 0);
        }
    }

    private static void refuse(LentYouths x, int call) {
        switch (call) {
            case 0: x.counter(9, 0, 0, 0); break;
            case 1: x.loans(9, 0, 0, 0, 0); break;
            case 2: x.told(0, 9, 0, 0, 0, 0); break;
            case 3: x.kinds(0, 9, 0, 0, 0); break;
            case 4: x.wears(0, 9, 0, 0, 0); break;
            case 5: x.odds(0, 9, 0, 0, 0, 0); break;
            case 6: x.sheet(9, 0, 0); break;
            case 7: x.cell(9, 0, 0); break;
            case 8: x.copy(9, 0, 0, 0, 0); break;
            case 9: x.as(9, 0); break;
            default: x.loans(0, 0, 0, 0, 0); break;
        }
    }

    private static void many() {
        LentYouths x = Due.at(FOUR);
        due.is("26: people", x.many(0), 4);
        due.is("26: readings", x.many(1), 0);
        x.reading(0, 0, true);
        due.is("26: one reading", x.many(1), 1);
        due.is("26: outside", x.many(2), OUTSIDE);
        due.is("26: below", x.many(-1), OUTSIDE);
    }
}
