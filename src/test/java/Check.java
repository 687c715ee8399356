/** What the tests share: it prints every answer that is not due, and ends with exit code 1 if there was one. */
final class Check {
    static final Class<? extends RuntimeException> INDEX = IndexOutOfBoundsException.class;
    static final Class<? extends RuntimeException> ARGUMENT = IllegalArgumentException.class;
    static final Class<? extends RuntimeException> UNSUPPORTED = UnsupportedOperationException.class;
    static final Class<? extends RuntimeException> STATE = IllegalStateException.class;

    /** No cents, as the document has them: below and above, and such as look right when cut down to an int. */
    static final long[] NO_CENTS = {
        -1, 400000001, Long.MIN_VALUE, Long.MAX_VALUE, 1L << 32, (1L << 32) + 5, 5 - (1L << 32)};

    private static final int KEPT_ENTRIES = 3000;

    private static String sentence = "";
    private static int sentences = 0;
    private static int wrong = 0;
    private static int asked = 0;

    private Check() {
    }

    /** What is asked from here on tests this sentence of the document. */
    static void sentence(String text) {
        sentence = "\"" + text + "\": ";
        sentences++;
    }

    static void due(String what, long want, long got) {
        asked++;
        if (want != got) {
            tellWrong(what + ": answered " + got + ", due is " + want);
        }
    }

    private static void tellWrong(String text) {
        wrong++;
        System.out.println(sentence + text);
    }

    /** The call throws exactly this exception, and changes nothing that can be asked of the desk. */
    static void refused(String what, Class<? extends RuntimeException> want, TrusteeDesk desk, Runnable call) {
        asked++;
        String before = picture(desk);
        String got = "nothing";
        try {
            call.run();
        } catch (RuntimeException e) {
            got = e.getClass().getSimpleName();
        }
        if (!got.equals(want.getSimpleName())) {
            tellWrong(what + ": threw " + got + ", due is " + want.getSimpleName());
        }
        if (!before.equals(picture(desk))) {
            tellWrong(what + ": changed what the desk tells");
        }
    }

    /** Numbers below and above those of count things, 0, 1, .., also such as are far off. */
    static int[] noNumbers(int count) {
        return new int[] {-1, count, count + 1, Integer.MIN_VALUE, Integer.MAX_VALUE};
    }

    /** All of a claim but its rank: state, amount, debt, got, paid, reserved, net, due, open. */
    static void claim(String what, TrusteeDesk desk, int claim, long... want) {
        for (int i = 0; i < want.length; i++) {
            due(what + ", told(" + claim + ", " + (i + 1) + ")", want[i], desk.told(claim, i + 1));
        }
    }

    /** Cash, reserved, realised, spent, got, paid. */
    static void sums(String what, TrusteeDesk desk, long... want) {
        for (int i = 0; i < want.length; i++) {
            due(what + ", sum(" + i + ")", want[i], desk.sum(i));
        }
    }

    /** The journal from an entry to its end, as threes of kind, whose, cents. */
    static void journal(String what, TrusteeDesk desk, int first, long... want) {
        due(what + ", entries()", first + want.length / 3, desk.entries());
        for (int i = 0; i < want.length && first + i / 3 < desk.entries(); i++) {
            int entry = first + i / 3;
            due(what + ", entry(" + entry + ", " + i % 3 + ")", want[i], desk.entry(entry, i % 3));
        }
    }

    static String picture(TrusteeDesk desk) {
        StringBuilder text = new StringBuilder();
        for (int claim = 0; claim < 60; claim++) {
            for (int what = 0; what < 10; what++) {
                try {
                    text.append(desk.told(claim, what)).append(' ');
                } catch (IndexOutOfBoundsException e) {
                    what = 10;
                    claim = 60;
                }
            }
        }
        for (int what = 0; what < 6; what++) {
            text.append(desk.sum(what)).append(' ');
        }
        for (int rank = 0; rank < 8; rank++) {
            text.append(desk.percentage(rank)).append(' ').append(desk.greatest(rank)).append(' ');
        }
        text.append(desk.entries());
        for (int i = 0; i < desk.entries() && i < KEPT_ENTRIES; i++) {
            for (int what = 0; what < 3; what++) {
                text.append(' ').append(desk.entry(i, what));
            }
        }
        return text.toString();
    }

    /** A desk whose asset 0 was realised for these cents. */
    static TrusteeDesk deskWith(long cash) {
        TrusteeDesk desk = new TrusteeDesk();
        desk.asset();
        desk.realise(0, cash);
        return desk;
    }

    static void finish() {
        String of = sentences == 0 ? "" : " for " + sentences + " sentences";
        System.out.println(asked + " answers asked" + of + ", " + wrong + " wrong");
        if (wrong != 0) {
            System.exit(1);
        }
    }
}
