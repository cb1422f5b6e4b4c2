/** What the tests share: answers that are due, and rows written to sheets. */
final class Due {
    private int wrong = 0;

    void is(String call, long got, long want) {
        if (got != want) {
            wrong++;
            System.out.println(call + " answered " + got + ", due is " + want);
        }
    }

    void isTrue(String what, boolean so) {
        is(what, so ? 1 : 0, 1);
    }

    void finish() {
        System.out.println(wrong == 0 ? "all answers are as due" : wrong + " answers are not as due");
        if (wrong != 0) {
            System.exit(1);
        }
    }

    /** Gives a sheet a new row of ints. */
    static void row(LentYouths x, int sheet, int... numbers) {
        x.sheet(sheet, 2, numbers.length);
        for (int i = 0; i < numbers.length; i++) {
            x.put(sheet, i, numbers[i]);
        }
    }

    /** Gives a sheet a new row of bytes, the codes of a text. */
    static void text(LentYouths x, int sheet, String text) {
        x.sheet(sheet, 0, text.length());
        for (int i = 0; i < text.length(); i++) {
            x.put(sheet, i, text.charAt(i));
        }
    }

    /** Tells a counter by a text, through sheet 3: what the call answers. */
    static int counter(LentYouths x, String text) {
        text(x, 3, text);
        return x.counter(3, 0, 0, text.length());
    }

    static LentYouths at(String text) {
        LentYouths x = new LentYouths();
        counter(x, text);
        return x;
    }
}
