/** The sentences on texts and on people, part 1 and promises 1 to 5, that name a boundary. */
final class BoundsOfCounter {
    private static final int UNKNOWN = -1, OUTSIDE = -2, STATE = -3;
    private static final int NULL = -11, CAST = -12, INDEX = -13, SIZE = -14;
    private static final int MIN = Filled.MIN, MAX = Filled.MAX;
    private static final String ONE = ";c0001";
    private static final String SIX = "k" + ONE.repeat(6);
    /** Behind four people: none of them. */
    private static final int[] NOBODY = {-1, 4, 5, 6, MIN, MAX};

    private BoundsOfCounter() { }

    /** The text is told to a new object. */
    private static void takes(Due due, String text, int answer) {
        LentYouths x = new LentYouths();
        due.is(text, Due.counter(x, text), answer);
        due.is("fault() of " + text, x.fault(), 0);
        due.is("people of " + text, x.many(0), Math.max(answer, 0));
    }

    @Holds(where = "Terms 1", says = "A COUNTER by a TEXT: k, then 2 to 6 PEOPLE")
    static void twoToSixPeople(Due due) {
        int[] answers = {-101, -107, 2, 3, 4, 5, 6, -137, -137};
        for (int people = 0; people < answers.length; people++) {
            takes(due, "k" + ONE.repeat(people), answers[people]);
        }
        takes(due, ONE + ONE, -100);
        takes(due, "kk" + ONE + ONE, -101);
    }

    @Holds(where = "Terms 1", says = "numbered from 0 on, each (and their own CHILDHOOD, of the same number)")
    static void numberedFromNoughtOn(Due due) {
        LentYouths x = Due.at("k;c0101;c0202;c0403;c0804;c1605;c3206");
        Due.row(x, 0, 0, 5);
        for (int p = 0; p < 6; p++) {
            due.is("wear of " + p, x.ofPerson(p, 3), p + 1);
            due.is("who has childhood " + p, x.loans(0, 2, 0, 0, 10 + p), p);
            due.is("its scenes", x.loans(0, 2, 0, 0, 30 + p), 1 << p);
        }
        due.is("person 0 gets the last one's", x.loans(0, 2, 0, 1, 10), 5);
        due.is("person 6", x.ofPerson(6, 0), UNKNOWN);
        due.is("person -1", x.ofPerson(-1, 0), UNKNOWN);
    }

    @Holds(where = "Terms 1", says = "; and a letter")
    static void aLetter(Due due) {
        takes(due, "k;c0001;s0001;t0001", 3);
        for (String other : new String[] {"b", "d", "r", "u", "C", "S", "T", "k", ";", "0"}) {
            takes(due, "k;" + other + "0001;c0001", -102);
            takes(due, "k;c0001;" + other + "0001", -108);
        }
        takes(due, "k:c0001;c0001", -101);
        takes(due, "kc0001;c0001", -101);
        takes(due, "k;c0001c0001", -107);
    }

    @Holds(where = "Terms 1", says = "two digits 00 .. 63 (SCENES, as a set)")
    static void scenesAsASet(Due due) {
        for (int digits = 0; digits < 100; digits++) {
            String text = "k;c0001;c" + digits / 10 + digits % 10 + "01";
            if (digits >= 64) {
                takes(due, text, digits < 70 ? -110 : -109);
                continue;
            }
            LentYouths x = Due.at(text);
            due.is("people of " + text, x.many(0), 2);
            due.is("scenes of " + text, x.ofPerson(1, 1), digits);
        }
    }

    @Holds(where = "Terms 1", says = "a digit 0 .. 6 (WANTS a SCENE; 6: none)")
    static void wantsAScene(Due due) {
        for (int digit = 0; digit <= 9; digit++) {
            String text = "k;c00" + digit + "1;c0061";
            takes(due, text, digit <= 6 ? 2 : -105);
            if (digit <= 6) {
                LentYouths x = Due.at(text);
                due.is("wanted by " + text, x.ofPerson(0, 2), digit);
                Due.row(x, 0);
                due.is("mended by " + text, x.loans(0, 2, 0, 0, 0), digit == 6 ? 3 : 2);
            }
        }
    }

    @Holds(where = "Terms 1", says = "a digit 1 .. 9 (WEAR)")
    static void wear(Due due) {
        for (int digit = 0; digit <= 9; digit++) {
            String text = "k;c000" + digit + ";c0001";
            takes(due, text, digit >= 1 ? 2 : -106);
            if (digit >= 1) {
                due.is("wear of " + text, Due.at(text).ofPerson(0, 3), digit);
            }
        }
        takes(due, "k;c000:;c0001", -106);
    }

    @Holds(where = "Terms 1", says = "FIRST FAULT: the place (from 0 on) of the first code with which no "
        + "TEXT goes on")
    static void theFirstFault(Due due) {
        String text = "k;c0311;s0431;t0802";
        for (int place = 0; place < text.length(); place++) {
            takes(due, text.substring(0, place) + "x" + text.substring(place + 1), -100 - place);
            takes(due, text.substring(0, place) + "x", -100 - place);
            takes(due, text.substring(0, place) + "xx".repeat(6), -100 - place);
        }
        takes(due, text + "x", -119);
        takes(due, text + "k", -119);
        takes(due, "x", -100);
    }

    @Holds(where = "Terms 1", says = "of SCENES the first digit, if none begins so, else the second")
    static void theDigitAtFault(Due due) {
        takes(due, "k;c7", -103);
        takes(due, "k;c70", -103);
        takes(due, "k;c99", -103);
        takes(due, "k;c64", -104);
        takes(due, "k;c69", -104);
        takes(due, "k;c63", -105);
        takes(due, "k;c59", -105);
        takes(due, "k;c6", -104);
        takes(due, "k;c:3", -103);
        takes(due, "k;c3:", -104);
        takes(due, "k;c3/", -104);
        takes(due, "k;c/3", -103);
    }

    @Holds(where = "Terms 1", says = "the ; of a seventh PERSON")
    static void theSeventhPerson(Due due) {
        takes(due, SIX, 6);
        takes(due, SIX + ";", -137);
        takes(due, SIX + ONE, -137);
        takes(due, SIX + ";x", -137);
        takes(due, SIX + "c0001", -137);
        LentYouths x = new LentYouths();
        Due.text(x, 0, SIX + ONE);
        due.is("the cells behind the text are not taken", x.counter(0, 0, 0, 37), 6);
    }

    @Holds(where = "Terms 1", says = "how many codes there are, if it just ends too soon")
    static void endsTooSoon(Due due) {
        String text = "k;c6369;s0061;t0001;c5956;s1913;t2742";
        for (int n = 0; n <= 37; n++) {
            boolean whole = n >= 13 && n % 6 == 1;
            takes(due, text.substring(0, n), whole ? n / 6 : -100 - n);
        }
    }

    @Holds(where = "Terms 1", says = "(Codes: k 107, c 99, s 115, t 116, ; 59, digits 48 .. 57.)")
    static void codes(Due due) {
        for (int place = 0; place < 13; place++) {
            codesAt(due, place, -130, 60);
            codesAt(due, place, 60, 250);
            codesAt(due, place, 250, 400);
            codesAt(due, place, 65536 + 40, 65536 + 120);
            codesAt(due, place, MIN, MIN + 120);
        }
    }

    /** Each code of from .. to - 1 stands once at a place of a text that is taken without it. */
    private static void codesAt(Due due, int place, int from, int to) {
        int[] taken = {'k', ';', 'c', '0', '3', '1', '1', ';', 's', '0', '4', '3', '1'};
        LentYouths x = new LentYouths();
        Due.row(x, 0, taken);
        for (int code = from; code < to; code++) {
            x.put(0, place, code);
            due.is("code " + code + " at " + place, x.counter(0, 2, 0, 13), answerOf(place, code));
        }
    }

    private static int answerOf(int place, int code) {
        // Scenes 04 become 64, of which the second digit is at fault.
        if (place == 9 && code == 54) {
            return -110;
        }
        return mayStandAt(place, code) ? 2 : -100 - place;
    }

    private static boolean mayStandAt(int place, int code) {
        switch (place) {
            case 0:
                return code == 107;
            case 1:
            case 7:
                return code == 59;
            case 2:
            case 8:
                return code == 99 || code == 115 || code == 116;
            case 4:
            case 10:
                return code >= 48 && code <= 57;
            case 6:
            case 12:
                return code >= 49 && code <= 57;
            default:
                return code >= 48 && code <= 54;
        }
    }

    @Holds(where = "Terms 1", says = "Kinds: 0 CHILDHOOD (c); 1 SAD (s), a CHILDHOOD; 2 TWIN (t), a SAD")
    static void kinds(Due due) {
        LentYouths x = Due.at("k;c0001;s0001;t0001");
        for (int kind = 0; kind < 3; kind++) {
            due.is("kind " + kind, x.ofPerson(kind, 0), kind);
            for (int other = 0; other < 3; other++) {
                due.is(kind + " as " + other, x.as(kind, other), other <= kind ? 1 : CAST);
            }
        }
    }

    @Holds(where = "Terms 1", says = "A TEXT that is taken makes all anew, but for SHEETS and TRACE: no READINGS")
    static void allAnew(Due due) {
        LentYouths x = Filled.make();
        x.live(0, 63);
        x.want(1, 5);
        int trace = x.trace();
        Filled.changesNothing(due, "a text that just ends", y -> y.counter(0, 0, 0, 12), -112, 0);
        Filled.changesNothing(due, "a text with a fault", y -> y.counter(2, 2, 0, 8), -100, 0);
        due.is("the text of two", x.counter(0, 0, 0, 13), 2);
        due.is("people", x.many(0), 2);
        due.is("readings", x.many(1), 0);
        due.is("the next reading", x.reading(0, 0, true), 0);
        due.is("scenes of 0", x.ofPerson(0, 1), 0);
        due.is("kind of 1's", x.ofPerson(1, 0), 1);
        due.is("scenes of 1", x.ofPerson(1, 1), 63);
        due.is("wanted by 1", x.ofPerson(1, 2), 6);
        due.is("wear of 1's", x.ofPerson(1, 3), 9);
        due.is("person 2", x.ofPerson(2, 0), UNKNOWN);
        due.is("trace", x.trace(), trace);
        due.is("a byte", x.cell(0, 12, 0), '9');
        due.is("a short", x.cell(1, 2, 1), -300);
        due.is("an int", x.cell(2, 7, 2), 4);
        due.is("nothing", x.lose(3), 0);
        due.is("the same text again", x.counter(0, 0, 0, 13), 2);
        due.is("readings again", x.many(1), 0);
    }

    @Holds(where = "Terms 1", says = "LASTS, how many LOANS: a CHILDHOOD its WEAR; a SAD one 1 more; "
        + "a TWIN twice what a SAD one does")
    static void lasts(Due due) {
        int[] ofTwins = {4, 6, 8, 10, 12, 14, 16, 18, 20};
        for (int wear = 1; wear <= 9; wear++) {
            LentYouths x = Due.at("k;c006" + wear + ";s006" + wear + ";t006" + wear);
            due.is("a childhood of wear " + wear, x.ofPerson(0, 4), wear);
            due.is("a sad one of wear " + wear, x.ofPerson(1, 4), wear + 1);
            due.is("a twin of wear " + wear, x.ofPerson(2, 4), ofTwins[wear - 1]);
        }
    }

    @Holds(where = "Promise 1", says = "No COUNTER (no PEOPLE)")
    static void newWithoutCounter(Due due) {
        LentYouths x = new LentYouths();
        due.is("people", x.many(0), 0);
        for (int p = -1; p <= 6; p++) {
            due.is("person " + p, x.ofPerson(p, 0), UNKNOWN);
            due.is("help of " + p, x.help(p), UNKNOWN);
        }
        due.is("fewest", x.fewest(0, -1), STATE);
        due.is("match", x.match(-1), STATE);
        due.is("fault()", x.fault(), 0);
        due.is("trace()", x.trace(), 0);
    }

    @Holds(where = "Promise 1", says = "SHEETS have nothing")
    static void newWithoutRows(Due due) {
        for (int k = 0; k < 4; k++) {
            LentYouths x = new LentYouths();
            due.is("put to " + k, x.put(k, 0, 0), NULL);
            due.is("counter by " + k, x.counter(k, 2, 0, 0), NULL);
            due.is("cell of " + k, x.cell(k, 0, 1), Filled.LOST);
            due.is("fault of it", x.fault(), 1);
            due.is("lose " + k, x.lose(k), 0);
        }
    }

    @Holds(where = "Promise 2", says = "A COUNTER by a TEXT of n cells of a SHEET from i on, taken as a row "
        + "of a LANE")
    static void cellsFromOnePlaceOn(Due due) {
        for (int lane = 0; lane < 3; lane++) {
            LentYouths x = new LentYouths();
            String text = "7;k;c0001;s6369;k";
            x.sheet(lane, lane, text.length());
            for (int i = 0; i < text.length(); i++) {
                x.put(lane, i, text.charAt(i));
            }
            due.is("from its k on", x.counter(lane, lane, 2, 13), 2);
            due.is("scenes", x.ofPerson(1, 1), 63);
            due.is("from ahead of it", x.counter(lane, lane, 1, 13), -100);
            due.is("with a ; more", x.counter(lane, lane, 2, 14), -114);
            due.is("with a k behind that", x.counter(lane, lane, 2, 15), -114);
            due.is("the last cell alone", x.counter(lane, lane, 16, 1), -101);
        }
    }

    @Holds(where = "Promise 2", says = "how many PEOPLE")
    static void howManyPeople(Due due) {
        for (int people = 2; people <= 6; people++) {
            takes(due, "k" + ONE.repeat(people), people);
        }
    }

    @Holds(where = "Promise 2", says = "-100 less the FIRST FAULT")
    static void lessTheFirstFault(Due due) {
        takes(due, "", -100);
        takes(due, "k", -101);
        takes(due, "k;c6369;c636:", -112);
        takes(due, SIX + ";", -137);
    }

    @Holds(where = "Promise 2", says = "UNKNOWN")
    static void counterOfNoSheet(Due due) {
        for (int sheet : new int[] {-1, 4, MIN, MAX}) {
            Filled.changesNothing(due, "counter of " + sheet, x -> x.counter(sheet, 0, 0, 13), UNKNOWN, 0);
        }
    }

    @Holds(where = "Promise 2", says = "OUTSIDE: lane")
    static void counterOfNoLane(Due due) {
        for (int lane : new int[] {-1, 3, MIN, MAX}) {
            Filled.changesNothing(due, "counter of lane " + lane, x -> x.counter(0, lane, 0, 13), OUTSIDE, 0);
            due.is("on a sheet of nothing", new LentYouths().counter(0, lane, 0, 0), OUTSIDE);
        }
    }

    @Holds(where = "Promise 2", says = "CAST (nothing is no CAST)")
    static void counterOfAnotherLane(Due due) {
        LentYouths x = Filled.make();
        for (int lane = 0; lane < 3; lane++) {
            due.is("bytes as " + lane, x.counter(0, lane, 0, 0), lane == 0 ? -100 : CAST);
            due.is("shorts as " + lane, x.counter(1, lane, 0, 0), lane == 1 ? -100 : CAST);
            due.is("ints as " + lane, x.counter(2, lane, 0, 0), lane == 2 ? -100 : CAST);
        }
        due.is("a whole text of another lane", x.counter(0, 1, 0, 13), CAST);
        x.lose(1);
        for (int lane = 0; lane < 3; lane++) {
            due.is("lost shorts as " + lane, x.counter(1, lane, 0, 0), NULL);
        }
    }

    @Holds(where = "Promise 2", says = "NULL")
    static void counterOfNothing(Due due) {
        LentYouths x = Filled.make();
        for (int lane = 0; lane < 3; lane++) {
            due.is("nothing as " + lane, x.counter(3, lane, 0, 0), NULL);
            due.is("nothing beyond as " + lane, x.counter(3, lane, -1, 13), NULL);
            due.is("less than nothing as " + lane, x.counter(3, lane, 0, -1), NULL);
        }
        due.is("fault()", x.fault(), 1);
    }

    @Holds(where = "Promise 2", says = "SIZE: n below 0")
    static void counterOfLessThanNoCells(Due due) {
        LentYouths x = Filled.make();
        for (int i : new int[] {-1, 0, 13, 14, MIN, MAX}) {
            due.is("-1 from " + i, x.counter(0, 0, i, -1), SIZE);
            due.is("least from " + i, x.counter(0, 0, i, MIN), SIZE);
            due.is("fault()", x.fault(), 4);
        }
        due.is("0 cells", x.counter(0, 0, 13, 0), -100);
    }

    @Holds(where = "Promise 2", says = "INDEX")
    static void counterBeyond(Due due) {
        LentYouths x = Filled.make();
        int[][] beyond = {{-1, 0}, {-1, 13}, {14, 0}, {0, 14}, {1, 13}, {13, 1}, {0, MAX}, {MAX, 0},
            {MAX, MAX}, {MIN, 0}, {MIN, MAX}};
        for (int[] b : beyond) {
            due.is(b[1] + " from " + b[0], x.counter(0, 0, b[0], b[1]), INDEX);
            due.is("fault()", x.fault(), 3);
        }
        due.is("all 13", x.counter(0, 0, 0, 13), 2);
        due.is("the last one", x.counter(0, 0, 12, 1), -100);
        due.is("none behind the last", x.counter(0, 0, 13, 0), -100);
    }

    @Holds(where = "Promise 2", says = "-100 less it")
    static void faultsOfTheMachineFirst(Due due) {
        LentYouths x = Filled.make();
        x.put(0, 0, 'x');
        due.is("a text with a fault", x.counter(0, 0, 0, 13), -100);
        due.is("it is none of the machine's", x.fault(), 0);
        due.is("of no sheet", x.counter(4, 0, 0, 13), UNKNOWN);
        due.is("of no lane", x.counter(0, 3, 0, 13), OUTSIDE);
        due.is("of another lane", x.counter(0, 1, 0, 13), CAST);
        due.is("of less than no cells", x.counter(0, 0, 0, -13), SIZE);
        due.is("of a cell too many", x.counter(0, 0, 0, 14), INDEX);
        due.is("the text again", x.counter(0, 0, 0, 13), -100);
        due.is("without a fault now", x.fault(), 0);
    }

    @Holds(where = "Promise 3", says = "Of a PERSON: 0 kind of their CHILDHOOD, 1 its SCENES, as a set, "
        + "2 what they WANT, 3 its WEAR, 4 how long it LASTS")
    static void ofPerson(Due due) {
        LentYouths x = Due.at("k;c0001;c6369;s0001;s6369;t0001;t6369");
        int[][] people = {{0, 0, 0, 1, 1}, {0, 63, 6, 9, 9}, {1, 0, 0, 1, 2}, {1, 63, 6, 9, 10},
            {2, 0, 0, 1, 4}, {2, 63, 6, 9, 20}};
        for (int p = 0; p < 6; p++) {
            for (int what = 0; what < 5; what++) {
                due.is(what + " of person " + p, x.ofPerson(p, what), people[p][what]);
            }
        }
    }

    @Holds(where = "Promise 3", says = "UNKNOWN")
    static void ofNobody(Due due) {
        LentYouths x = Filled.make();
        for (int p : NOBODY) {
            for (int what = -1; what <= 5; what++) {
                due.is(what + " of person " + p, x.ofPerson(p, what), UNKNOWN);
            }
        }
        due.is("person 3", x.ofPerson(3, 1), 48);
    }

    @Holds(where = "Promise 3", says = "OUTSIDE")
    static void ofPersonNothingElse(Due due) {
        LentYouths x = Filled.make();
        for (int what : new int[] {-1, 5, 6, MIN, MAX}) {
            for (int p = 0; p < 4; p++) {
                due.is(what + " of person " + p, x.ofPerson(p, what), OUTSIDE);
            }
        }
    }

    @Holds(where = "Promise 4", says = "SCENES of the CHILDHOOD of a PERSON become a set (0 .. 63): what they were")
    static void live(Due due) {
        LentYouths x = Filled.make();
        int before = 3;
        for (int set = 0; set <= 63; set++) {
            due.is("what was ahead of " + set, x.live(0, set), before);
            due.is("set " + set, x.ofPerson(0, 1), set);
            before = set;
        }
        due.is("another's", x.ofPerson(1, 1), 4);
        due.is("what the last one's was", x.live(3, 1), 48);
        due.is("what it became", x.live(3, 48), 1);
        Due.row(x, 0, 3, 0);
        due.is("with the set 63 it is lent", x.loans(0, 2, 0, 1, 1), -9);
        x.live(3, 0);
        due.is("with the set 0 it is not", x.loans(0, 2, 0, 1, 1), 0);
    }

    @Holds(where = "Promise 4", says = "UNKNOWN")
    static void liveOfNobody(Due due) {
        for (int p : NOBODY) {
            Filled.changesNothing(due, "live of " + p, x -> x.live(p, 1), UNKNOWN, Filled.FAULT_BEFORE);
        }
    }

    @Holds(where = "Promise 4", says = "OUTSIDE")
    static void liveOfNoSet(Due due) {
        for (int set : new int[] {-1, 64, 127, MIN, MAX}) {
            Filled.changesNothing(due, "live with " + set, x -> x.live(0, set), OUTSIDE, Filled.FAULT_BEFORE);
        }
    }

    @Holds(where = "Promise 5", says = "A PERSON WANTS a SCENE (0 .. 6): which they WANTED")
    static void want(Due due) {
        LentYouths x = Filled.make();
        int before = 2;
        x.want(3, 2);
        for (int scene = 0; scene <= 6; scene++) {
            due.is("what was ahead of " + scene, x.want(3, scene), before);
            due.is("scene " + scene, x.ofPerson(3, 2), scene);
            // Childhood 3 has the scenes 4 and 5.
            due.is("mended by it", x.loans(2, 2, 0, 0, 0) >> 3, scene >= 4 ? 1 : 0);
            before = scene;
        }
        due.is("another's", x.ofPerson(2, 2), 0);
    }

    @Holds(where = "Promise 5", says = "UNKNOWN")
    static void wantOfNobody(Due due) {
        for (int p : NOBODY) {
            Filled.changesNothing(due, "want of " + p, x -> x.want(p, 1), UNKNOWN, Filled.FAULT_BEFORE);
        }
    }

    @Holds(where = "Promise 5", says = "OUTSIDE")
    static void wantOfNoScene(Due due) {
        for (int scene : new int[] {-1, 7, MIN, MAX}) {
            Filled.changesNothing(due, "want of scene " + scene, x -> x.want(0, scene), OUTSIDE,
                Filled.FAULT_BEFORE);
        }
    }
}
