/** Promise 6: realise. */
public final class RealiseTest {
    public static void main(String[] args) {
        leastOfLimitNetAndRest();
        limitsAreNotForOthers();
        settlesThatDo();
        settlesOnlyWithTheLastAsset();
        outClaimGetsNothing();
        whereItMayNot();
        zeroCents();
        Check.finish();
    }

    private static void leastOfLimitNetAndRest() {
        TrusteeDesk desk = new TrusteeDesk();
        desk.asset();
        desk.asset();
        desk.claim(3, 100);
        desk.claim(0, 100);
        desk.claim(0, 100);
        desk.claim(0, 100);
        desk.owes(1, 40);
        desk.secure(1, 2, 70);
        desk.secure(1, 1, 90);
        desk.secure(1, 0, 100);
        desk.secure(1, 3, 100);
        Check.due("all is got", 0, desk.realise(1, 150));
        Check.claim("limit", desk, 2, 0, 100, 0, 70, 0, 0, 30, 0, 0);
        Check.claim("net", desk, 1, 0, 100, 40, 60, 0, 0, 0, 0, 0);
        Check.claim("what is left", desk, 0, 0, 100, 0, 20, 0, 0, 80, 0, 0);
        Check.claim("nothing is left", desk, 3, 0, 100, 0, 0, 0, 0, 100, 0, 0);
        Check.sums("all is got", desk, 0, 0, 150, 0, 150, 0);
        Check.journal("whose is the asset, then the claims in order", desk, 0,
                1, 1, 150, 2, 2, 70, 2, 1, 60, 2, 0, 20);
    }

    private static void limitsAreNotForOthers() {
        TrusteeDesk desk = new TrusteeDesk();
        desk.asset();
        desk.asset();
        desk.claim(0, 1000);
        desk.secure(0, 0, 600);
        desk.secure(1, 0, 600);
        Check.due("first asset", 99, desk.realise(0, 699));
        Check.due("the second gives what is left of the net", 300, desk.realise(1, 700));
        Check.claim("got of two", desk, 0, 0, 1000, 0, 1000, 0, 0, 0, 0, 0);
        Check.sums("got of two", desk, 399, 0, 1399, 0, 1000, 0);
    }

    private static void settlesThatDo() {
        TrusteeDesk desk = Check.deskWith(1000);
        desk.asset();
        for (int i = 0; i < 4; i++) {
            desk.claim(0, 200);
        }
        desk.secure(1, 3, 50);
        desk.secure(1, 1, 200);
        desk.secure(1, 0, 400);
        desk.contest(2);
        Check.due("all are reserved", 400, desk.dividend(0, 5000));
        Check.sums("all are reserved", desk, 600, 400, 1000, 0, 0, 0);
        Check.due("the rest is told without what is released", 0, desk.realise(1, 250));
        Check.claim("got nothing, all is paid", desk, 0, 0, 200, 0, 0, 100, 0, 200, 100, 0);
        Check.claim("got its whole net, all is released", desk, 1, 0, 200, 0, 200, 0, 0, 0, 0, 0);
        Check.claim("contested, stays reserved", desk, 2, 1, 200, 0, 0, 0, 100, 200, 100, 1);
        Check.claim("got a part", desk, 3, 0, 200, 0, 50, 75, 0, 150, 75, 0);
        Check.journal("by numbers", desk, 5,
                1, 1, 250, 2, 3, 50, 2, 1, 200,
                6, 0, 100, 7, 1, 100, 6, 3, 75, 7, 3, 25);
        Check.sums("settled", desk, 725, 100, 1250, 0, 250, 175);
    }

    private static void settlesOnlyWithTheLastAsset() {
        TrusteeDesk desk = Check.deskWith(1000);
        desk.asset();
        desk.asset();
        desk.claim(0, 100);
        desk.secure(1, 0, 100);
        desk.secure(2, 0, 100);
        desk.dividend(0, 10000);
        Check.due("first", 0, desk.realise(1, 40));
        Check.claim("open still: reserved above the due", desk, 0, 0, 100, 0, 40, 0, 100, 60, 60, 1);
        Check.due("catchUp serves nothing", 0, desk.catchUp());
        Check.due("second", 0, desk.realise(2, 0));
        Check.claim("settled", desk, 0, 0, 100, 0, 40, 60, 0, 60, 60, 0);
        Check.sums("settled", desk, 940, 0, 1040, 0, 40, 60);
    }

    private static void outClaimGetsNothing() {
        TrusteeDesk desk = new TrusteeDesk();
        desk.asset();
        desk.claim(0, 100);
        desk.claim(0, 100);
        desk.secure(0, 0, 100);
        desk.secure(0, 1, 100);
        desk.contest(0);
        desk.settle(0, 0);
        Check.due("OUT is not open", 0, desk.told(0, 9));
        Check.due("the second gets it", 0, desk.realise(0, 80));
        Check.journal("no entry for OUT", desk, 0, 1, 0, 80, 2, 1, 80);
    }

    private static void whereItMayNot() {
        TrusteeDesk desk = new TrusteeDesk();
        desk.asset();
        desk.claim(0, 100);
        desk.claim(0, 100);
        desk.secure(0, 0, 100);
        desk.secure(0, 1, 100);
        desk.contest(1);
        Check.refused("asset 1", Check.INDEX, desk, () -> desk.realise(1, -1));
        Check.refused("asset -1", Check.INDEX, desk, () -> desk.realise(-1, 1));
        Check.refused("cents -1", Check.ARGUMENT, desk, () -> desk.realise(0, -1));
        Check.refused("too many cents", Check.ARGUMENT, desk, () -> desk.realise(0, 400000001));
        Check.refused("contested", Check.STATE, desk, () -> desk.realise(0, 1));
        desk.settle(1, 100);
        Check.due("all cents", 399999800, desk.realise(0, 400000000));
        Check.refused("realised", Check.STATE, desk, () -> desk.realise(0, 1));
        Check.refused("realised, wrong cents", Check.ARGUMENT, desk, () -> desk.realise(0, -1));
        desk.end();
        Check.refused("behind end", Check.STATE, desk, () -> desk.realise(0, 1));
        Check.refused("index behind end", Check.INDEX, desk, () -> desk.realise(1, 1));
    }

    private static void zeroCents() {
        TrusteeDesk desk = new TrusteeDesk();
        desk.asset();
        desk.claim(0, 100);
        desk.secure(0, 0, 100);
        Check.due("for nothing", 0, desk.realise(0, 0));
        Check.due("no entry", 0, desk.entries());
        Check.due("not open any more", 0, desk.told(0, 9));
        Check.refused("realised", Check.STATE, desk, () -> desk.realise(0, 0));
    }
}
