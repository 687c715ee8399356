/** The edges that promises 6 to 8 name (realise, contest, settle): a method for each sentence. */
public final class ContestEdgesTest {
    public static void main(String[] args) {
        realiseForTheLeast();
        realiseTheRest();
        realiseThenAllSettle();
        realiseNoCents();
        realiseTwice();
        realiseWithAContestedOne();
        contested();
        contestNotAdmitted();
        contestNotFresh();
        settleOutFor0();
        settleAdmittedForTheRest();
        settleOpenStill();
        settleElse();
        settleNoCents();
        settleNotContested();
        Check.finish();
    }

    /** What a claim gets with this limit and this net, where an asset is realised for these cents. */
    private static void got(long want, long limit, long net, long cents) {
        TrusteeDesk desk = new TrusteeDesk();
        desk.asset();
        desk.claim(0, net + 7);
        desk.owes(0, 7);
        desk.secure(0, 0, limit);
        String what = "limit " + limit + ", net " + net + ", cents " + cents;
        Check.due(what + ", the rest", cents - want, desk.realise(0, cents));
        Check.due(what + ", got", want, desk.told(0, 4));
        Check.due(what + ", cash", cents - want, desk.sum(0));
    }

    private static void realiseForTheLeast() {
        Check.sentence("each security, in order, gets the least of its limit, its claim's net,"
                + " and what is left of them");
        got(5, 5, 5, 5);
        got(4, 4, 5, 5);
        got(4, 5, 4, 5);
        got(4, 5, 5, 4);
        got(0, 5, 0, 5);
        got(0, 5, 5, 0);
        got(1, 1, 399999993, 400000000);
        got(399999993, 400000000, 399999993, 400000000);
        TrusteeDesk desk = new TrusteeDesk();
        desk.asset();
        for (int i = 0; i < 4; i++) {
            desk.claim(0, 10);
            desk.secure(0, i, 10);
        }
        Check.due("the third to the cent, none for the fourth", 0, desk.realise(0, 30));
        Check.journal("in order", desk, 0, 1, 0, 30, 2, 0, 10, 2, 1, 10, 2, 2, 10);
    }

    private static void realiseTheRest() {
        Check.sentence("the rest goes to the cash, and is answered");
        TrusteeDesk desk = new TrusteeDesk();
        desk.asset();
        desk.asset();
        desk.asset();
        desk.claim(0, 10);
        desk.secure(1, 0, 10);
        Check.due("all, without securities", 5, desk.realise(0, 5));
        Check.due("1", 1, desk.realise(1, 11));
        Check.due("0", 0, desk.realise(2, 0));
        Check.sums("in the cash", desk, 6, 0, 16, 0, 10, 0);
    }

    private static void realiseThenAllSettle() {
        Check.sentence("Then all claims settle that do, by their numbers");
        TrusteeDesk desk = Check.deskWith(1000);
        desk.asset();
        desk.claim(3, 20);
        desk.claim(2, 20);
        desk.claim(1, 20);
        for (int i = 2; i >= 0; i--) {
            desk.secure(1, i, 4);
            desk.dividend(3 - i, 10000);
        }
        Check.sums("reserved", desk, 940, 60, 1000, 0, 0, 0);
        Check.due("what is released is not answered", 0, desk.realise(1, 12));
        Check.journal("got in order, then settled by numbers", desk, 4,
                1, 1, 12, 2, 2, 4, 2, 1, 4, 2, 0, 4,
                6, 0, 16, 7, 0, 4, 6, 1, 16, 7, 1, 4, 6, 2, 16, 7, 2, 4);
        Check.sums("settled", desk, 952, 0, 1012, 0, 12, 48);
    }

    private static void realiseNoCents() {
        Check.sentence("realise, IllegalArgument: no such cents");
        TrusteeDesk desk = new TrusteeDesk();
        desk.asset();
        for (long cents : Check.NO_CENTS) {
            Check.refused("cents " + cents, Check.ARGUMENT, desk, () -> desk.realise(0, cents));
        }
        Check.due("it is not realised yet", 400000000, desk.realise(0, 400000000));
    }

    private static void realiseTwice() {
        Check.sentence("realise, IllegalState: it is realised");
        TrusteeDesk desk = new TrusteeDesk();
        for (int i = 0; i < 20; i++) {
            int asset = desk.asset();
            desk.realise(asset, asset);
            Check.refused("again", Check.STATE, desk, () -> desk.realise(asset, 1));
        }
        Check.refused("the first, again", Check.STATE, desk, () -> desk.realise(0, 1));
    }

    private static void realiseWithAContestedOne() {
        Check.sentence("realise, IllegalState: .. a claim that has security in it is CONTESTED");
        for (int place = 0; place < 4; place++) {
            TrusteeDesk desk = new TrusteeDesk();
            desk.asset();
            desk.asset();
            for (int i = 0; i < 5; i++) {
                desk.claim(0, 10);
            }
            for (int i = 0; i < 4; i++) {
                desk.secure(1, i, 10);
            }
            desk.contest(place);
            desk.contest(4);
            Check.refused("security " + place, Check.STATE, desk, () -> desk.realise(1, 100));
            Check.due("not one in it", 100, desk.realise(0, 100));
            desk.settle(place, place % 2);
            Check.due("ADMITTED or OUT", 70 - place % 2, desk.realise(1, 100));
        }
    }

    private static void contested() {
        Check.sentence("A claim is CONTESTED");
        TrusteeDesk desk = new TrusteeDesk();
        desk.asset();
        desk.claim(7, 10);
        desk.owes(0, 3);
        desk.secure(0, 0, 5);
        desk.realise(0, 2);
        desk.contest(0);
        Check.claim("fresh, though it owes and got some", desk, 0, 1, 10, 3, 2, 0, 0, 5, 0, 1);
    }

    private static void contestNotAdmitted() {
        Check.sentence("contest, IllegalState: it is not ADMITTED");
        TrusteeDesk desk = new TrusteeDesk();
        desk.claim(0, 10);
        desk.contest(0);
        Check.refused("CONTESTED", Check.STATE, desk, () -> desk.contest(0));
        desk.settle(0, 10);
        desk.contest(0);
        Check.due("ADMITTED again, so CONTESTED again", 1, desk.told(0, 1));
        desk.settle(0, 0);
        Check.refused("OUT", Check.STATE, desk, () -> desk.contest(0));
    }

    private static void contestNotFresh() {
        Check.sentence("contest, IllegalState: .. not fresh");
        TrusteeDesk desk = Check.deskWith(10);
        desk.asset();
        desk.claim(0, 1);
        desk.claim(0, 1);
        desk.claim(0, 1);
        desk.secure(1, 1, 1);
        desk.dividend(0, 9999);
        desk.contest(2);
        Check.due("served with nothing", 1, desk.told(2, 1));
        desk.dividend(0, 10000);
        Check.refused("a cent was paid", Check.STATE, desk, () -> desk.contest(0));
        Check.refused("a cent is reserved", Check.STATE, desk, () -> desk.contest(1));
        desk.settle(2, 1);
        Check.refused("a cent was paid of what was reserved", Check.STATE, desk, () -> desk.contest(2));
    }

    private static void settleOutFor0() {
        Check.sentence("A CONTESTED claim is OUT, for 0 cents");
        TrusteeDesk desk = Check.deskWith(100);
        desk.claim(0, 10);
        desk.contest(0);
        desk.dividend(0, 10000);
        Check.due("nothing is paid", 0, desk.settle(0, 0));
        Check.claim("OUT, with its amount", desk, 0, 2, 10, 0, 0, 0, 0, 0, 0, 0);
        Check.journal("all is released", desk, 2, 7, 0, 10);
    }

    private static void settleAdmittedForTheRest() {
        Check.sentence("else ADMITTED, with these as its amount");
        TrusteeDesk desk = Check.deskWith(100);
        for (int i = 0; i < 3; i++) {
            desk.claim(0, 10);
            desk.contest(i);
        }
        desk.dividend(0, 10000);
        Check.due("1", 1, desk.settle(0, 1));
        Check.claim("1", desk, 0, 0, 1, 0, 0, 1, 0, 1, 1, 0);
        Check.due("one less", 9, desk.settle(1, 9));
        Check.claim("one less", desk, 1, 0, 9, 0, 0, 9, 0, 9, 9, 0);
        Check.due("all of it", 10, desk.settle(2, 10));
        Check.claim("all of it", desk, 2, 0, 10, 0, 0, 10, 0, 10, 10, 0);
        Check.journal("paid, and the rest is released", desk, 4,
                6, 0, 1, 7, 0, 9, 6, 1, 9, 7, 1, 1, 6, 2, 10);
    }

    /** A claim of 10 cents in rank 0 at 100 percent, with a security, contested, and what of it is reserved. */
    private static TrusteeDesk openStill(int reserved) {
        TrusteeDesk desk = Check.deskWith(reserved);
        desk.asset();
        desk.dividend(0, 10000);
        desk.claim(0, 10);
        desk.secure(1, 0, 10);
        desk.contest(0);
        desk.catchUp();
        return desk;
    }

    private static void settleOpenStill() {
        Check.sentence("If it is open still, what is reserved for it above its due is released");
        for (int amount = 1; amount <= 10; amount++) {
            TrusteeDesk desk = openStill(5);
            Check.due("nothing is paid", 0, desk.settle(0, amount));
            long stays = Math.min(5, amount);
            Check.claim("5 reserved, " + amount + " due", desk, 0, 0, amount, 0, 0, 0, stays, amount, amount, 1);
            Check.due("the cash", 5 - stays, desk.sum(0));
            Check.due("an entry, if any is released", amount < 5 ? 3 : 2, desk.entries());
        }
    }

    private static void settleElse() {
        Check.sentence("else it settles. What it was paid now");
        TrusteeDesk desk = openStill(5);
        Check.due("OUT with a security is not open", 0, desk.settle(0, 0));
        Check.sums("all is released", desk, 5, 0, 5, 0, 0, 0);
        TrusteeDesk poor = Check.deskWith(5);
        poor.dividend(0, 10000);
        poor.claim(0, 10);
        poor.contest(0);
        poor.catchUp();
        Check.due("all that is reserved, if more is due", 5, poor.settle(0, 6));
        Check.due("nothing was reserved", 0, settledUnserved());
    }

    private static long settledUnserved() {
        TrusteeDesk desk = Check.deskWith(5);
        desk.claim(0, 10);
        desk.contest(0);
        return desk.settle(0, 10);
    }

    private static void settleNoCents() {
        Check.sentence("settle, IllegalArgument: the cents are below 0, or above its amount");
        TrusteeDesk desk = new TrusteeDesk();
        desk.claim(0, 10);
        desk.contest(0);
        Check.refused("above", Check.ARGUMENT, desk, () -> desk.settle(0, 11));
        for (long cents : Check.NO_CENTS) {
            Check.refused("cents " + cents, Check.ARGUMENT, desk, () -> desk.settle(0, cents));
        }
        desk.settle(0, 9);
        desk.owes(0, 5);
        desk.contest(0);
        Check.refused("above its new amount", Check.ARGUMENT, desk, () -> desk.settle(0, 10));
        Check.due("above its net, but not its amount", 0, desk.settle(0, 9));
    }

    private static void settleNotContested() {
        Check.sentence("settle, IllegalState: it is not CONTESTED");
        TrusteeDesk desk = new TrusteeDesk();
        desk.claim(0, 10);
        Check.refused("ADMITTED", Check.STATE, desk, () -> desk.settle(0, 10));
        Check.refused("ADMITTED, 0 cents", Check.STATE, desk, () -> desk.settle(0, 0));
        desk.contest(0);
        desk.settle(0, 0);
        Check.refused("OUT", Check.STATE, desk, () -> desk.settle(0, 0));
        Check.refused("OUT, its amount", Check.STATE, desk, () -> desk.settle(0, 10));
    }
}
