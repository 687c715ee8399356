/** What the tests share: it prints every answer that is not due, and ends with exit code 1 if there was one. */
final class Check {
    static final Class<? extends RuntimeException> INDEX = IndexOutOfBoundsException.class;
    static final Class<? extends RuntimeException> ARGUMENT = IllegalArgumentException.class;
    static final Class<? extends RuntimeException> UNSUPPORTED = UnsupportedOperationException.class;
    static final Class<? extends RuntimeException> STATE = IllegalStateException.class;

    private static int wrong = 0;
    private static int asked = 0;

    private Check() {
    }

    static void due(String what, long want, long got) {
        asked++;
        if (want != got) {
            wrong++;
            System.out.println(what + ": answered " + got + ", due is " + want);
        }
    }

    /** The call throws exactly this exception, and changes nothing that can be asked of the desk. */
    static void refused(String what, Class<? extends RuntimeException> want, TrusteeDesk desk, Runnable call) {
        asked++;
        String before = picture(desk);
        String got = "nothing";
        try {
            call.run();
        } catch (RuntimeException e) {
            got = e.getClass().getSimpleName();
        }
        if (!got.equals(want.getSimpleName())) {
            wrong++;
            System.out.println(what + ": threw " + got + ", due is " + want.getSimpleName());
        }
        if (!before.equals(picture(desk))) {
            wrong++;
            System.out.println(what + ": changed what the desk tells");
        }
    }

    /** All of a claim but its rank: state, amount, debt, got, paid, reserved, net, due, open. */
    static void claim(String what, TrusteeDesk desk, int claim, long... want) {
        for (int i = 0; i < want.length; i++) {
            due(what + ", told(" + claim + ", " + (i + 1) + ")", want[i], desk.told(claim, i + 1));
        }
    }

    /** Cash, reserved, realised, spent, got, paid. */
    static void sums(String what, TrusteeDesk desk, long... want) {
        for (int i = 0; i < want.length; i++) {
            due(what + ", sum(" + i + ")", want[i], desk.sum(i));
        }
    }

    /** The journal from an entry to its end, as threes of kind, whose, cents. */
    static void journal(String what, TrusteeDesk desk, int first, long... want) {
        due(what + ", entries()", first + want.length / 3, desk.entries());
        for (int i = 0; i < want.length && first + i / 3 < desk.entries(); i++) {
            int entry = first + i / 3;
            due(what + ", entry(" + entry + ", " + i % 3 + ")", want[i], desk.entry(entry, i % 3));
        }
    }

    static String picture(TrusteeDesk desk) {
        StringBuilder text = new StringBuilder();
        for (int claim = 0; claim < 60; claim++) {
            for (int what = 0; what < 10; what++) {
                try {
                    text.append(desk.told(claim, what)).append(' ');
                } catch (IndexOutOfBoundsException e) {
                    what = 10;
                    claim = 60;
                }
            }
        }
        for (int what = 0; what < 6; what++) {
            text.append(desk.sum(what)).append(' ');
        }
        for (int rank = 0; rank < 8; rank++) {
            text.append(desk.percentage(rank)).append(' ').append(desk.greatest(rank)).append(' ');
        }
        return text.append(desk.entries()).toString();
    }

    /** A desk whose asset 0 was realised for these cents. */
    static TrusteeDesk deskWith(long cash) {
        TrusteeDesk desk = new TrusteeDesk();
        desk.asset();
        desk.realise(0, cash);
        return desk;
    }

    static void finish() {
        System.out.println(asked + " answers asked, " + wrong + " wrong");
        if (wrong != 0) {
            System.exit(1);
        }
    }
}
