/** What the tests share: answers that are due, and rows written to sheets. */
final class Due {
    private int wrong = 0;
    private int looks = 0;
    private String heading = "";

    void is(String call, long got, long want) {
        looks++;
        if (got != want) {
            wrong++;
            System.out.println(heading + call + " answered " + got + ", due is " + want);
        }
    }

    /** What is told ahead of each wrong answer from now on. */
    void under(String newHeading) {
        heading = newHeading;
    }

    /** How many answers have been looked at. */
    int looks() {
        return looks;
    }

    void isTrue(String what, boolean so) {
        is(what, so ? 1 : 0, 1);
    }

    void finish() {
        System.out.println(wrong == 0 ? "all answers are as due" : wrong + " answers are not as due");
        if (wrong != 0) {
            System.exit(1);
        }
    }

    /** Gives a sheet a new row of ints. */
    static void row(LentYouths x, int sheet, int... numbers) {
        x.sheet(sheet, 2, numbers.length);
        for (int i = 0; i < numbers.length; i++) {
            x.put(sheet, i, numbers[i]);
        }
    }

    /** Gives a sheet a new row of bytes, the codes of a text. */
    static void text(LentYouths x, int sheet, String text) {
        x.sheet(sheet, 0, text.length());
        for (int i = 0; i < text.length(); i++) {
            x.put(sheet, i, text.charAt(i));
        }
    }

    /** Tells a counter by a text, through sheet 3: what the call answers. */
    static int counter(LentYouths x, String text) {
        text(x, 3, text);
        return x.counter(3, 0, 0, text.length());
    }

    static LentYouths at(String text) {
        LentYouths x = new LentYouths();
        counter(x, text);
        return x;
    }
}
