/** Promises 7 and 8: contest, settle. */
public final class ContestTest {
    public static void main(String[] args) {
        contest();
        settlesForLess();
        settlesOut();
        settlesOpenStill();
        settlesOutOfSecurity();
        settlesFreshAgain();
        settleWhereItMayNot();
        Check.finish();
    }

    private static void contest() {
        TrusteeDesk desk = Check.deskWith(1000);
        desk.claim(0, 100);
        desk.claim(0, 100);
        desk.contest(1);
        Check.claim("contested", desk, 1, 1, 100, 0, 0, 0, 0, 100, 0, 1);
        Check.refused("twice", Check.STATE, desk, () -> desk.contest(1));
        Check.refused("no claim", Check.INDEX, desk, () -> desk.contest(2));
        Check.refused("claim -1", Check.INDEX, desk, () -> desk.contest(-1));
        desk.asset();
        desk.claim(0, 100);
        desk.secure(1, 2, 10);
        desk.dividend(0, 1000);
        Check.refused("paid", Check.STATE, desk, () -> desk.contest(0));
        Check.refused("reserved", Check.STATE, desk, () -> desk.contest(2));
        desk.settle(1, 0);
        Check.refused("OUT", Check.STATE, desk, () -> desk.contest(1));
        desk.realise(1, 0);
        desk.claim(0, 5);
        desk.end();
        Check.refused("behind end", Check.STATE, desk, () -> desk.contest(3));
        Check.refused("no claim behind end", Check.INDEX, desk, () -> desk.contest(4));
    }

    private static void settlesForLess() {
        TrusteeDesk desk = Check.deskWith(1000);
        desk.claim(0, 201);
        desk.claim(0, 333);
        desk.contest(0);
        desk.contest(1);
        desk.owes(0, 20);
        desk.dividend(0, 5000);
        Check.due("the rest is paid", 65, desk.settle(0, 151));
        Check.claim("settled", desk, 0, 0, 151, 20, 0, 65, 0, 131, 65, 0);
        Check.due("all is paid", 166, desk.settle(1, 333));
        Check.claim("settled whole", desk, 1, 0, 333, 0, 0, 166, 0, 333, 166, 0);
        Check.journal("paid, then released", desk, 3, 6, 0, 65, 7, 0, 25, 6, 1, 166);
        Check.sums("settled", desk, 769, 0, 1000, 0, 0, 231);
        Check.refused("twice", Check.STATE, desk, () -> desk.settle(0, 1));
    }

    private static void settlesOut() {
        TrusteeDesk desk = Check.deskWith(1000);
        desk.claim(0, 200);
        desk.contest(0);
        desk.dividend(0, 5000);
        Check.due("nothing is paid", 0, desk.settle(0, 0));
        Check.claim("OUT", desk, 0, 2, 200, 0, 0, 0, 0, 0, 0, 0);
        Check.journal("released", desk, 2, 7, 0, 100);
        Check.sums("OUT", desk, 1000, 0, 1000, 0, 0, 0);
        Check.due("no rank stands in the way", 10000, desk.greatest(1));
    }

    private static void settlesOpenStill() {
        TrusteeDesk desk = Check.deskWith(1000);
        desk.asset();
        desk.claim(0, 200);
        desk.claim(0, 200);
        desk.secure(1, 0, 10);
        desk.contest(0);
        desk.dividend(0, 5000);
        Check.due("open still", 0, desk.settle(0, 120));
        Check.claim("open still", desk, 0, 0, 120, 0, 0, 0, 60, 120, 60, 1);
        Check.journal("released above the due", desk, 3, 7, 0, 40);
        Check.sums("open still", desk, 840, 60, 1000, 0, 0, 100);
        desk.realise(1, 5);
        Check.claim("settled by realise", desk, 0, 0, 120, 0, 5, 57, 0, 115, 57, 0);
    }

    private static void settlesOutOfSecurity() {
        TrusteeDesk desk = Check.deskWith(1000);
        desk.asset();
        desk.claim(0, 200);
        desk.secure(1, 0, 10);
        desk.contest(0);
        desk.dividend(0, 5000);
        Check.due("OUT", 0, desk.settle(0, 0));
        Check.claim("OUT is not open", desk, 0, 2, 200, 0, 0, 0, 0, 0, 0, 0);
        Check.sums("all is released", desk, 1000, 0, 1000, 0, 0, 0);
        Check.due("nothing is got", 7, desk.realise(1, 7));
    }

    private static void settlesFreshAgain() {
        TrusteeDesk desk = Check.deskWith(1000);
        desk.claim(0, 200);
        desk.contest(0);
        desk.dividend(0, 5000);
        Check.due("a due of 0", 0, desk.settle(0, 1));
        Check.claim("all is released", desk, 0, 0, 1, 0, 0, 0, 0, 1, 0, 0);
        desk.contest(0);
        Check.due("fresh again, so contested again", 1, desk.told(0, 1));
    }

    private static void settleWhereItMayNot() {
        TrusteeDesk desk = new TrusteeDesk();
        desk.claim(0, 200);
        desk.claim(0, 200);
        desk.contest(0);
        Check.refused("above", Check.ARGUMENT, desk, () -> desk.settle(0, 201));
        Check.refused("below 0", Check.ARGUMENT, desk, () -> desk.settle(0, -1));
        Check.refused("no claim", Check.INDEX, desk, () -> desk.settle(2, -1));
        Check.refused("claim -1", Check.INDEX, desk, () -> desk.settle(-1, 0));
        Check.refused("not contested", Check.STATE, desk, () -> desk.settle(1, 200));
        Check.refused("not contested, above", Check.ARGUMENT, desk, () -> desk.settle(1, 201));
        desk.settle(0, 100);
        desk.contest(0);
        Check.refused("above the new amount", Check.ARGUMENT, desk, () -> desk.settle(0, 101));
        desk.end();
        Check.refused("behind end", Check.STATE, desk, () -> desk.settle(0, 1));
        Check.refused("above, behind end", Check.ARGUMENT, desk, () -> desk.settle(0, 101));
    }
}
