/** Promises 1 to 5: a new object, claim, owes, asset, secure. */
public final class RegisterTest {
    public static void main(String[] args) {
        newObject();
        claim();
        claimsAtTheirMost();
        owes();
        owesWhereItMayNot();
        asset();
        secure();
        secureWhereItMayNot();
        secureOrderOfExceptions();
        Check.finish();
    }

    private static void newObject() {
        TrusteeDesk desk = new TrusteeDesk();
        Check.sums("new", desk, 0, 0, 0, 0, 0, 0);
        Check.due("new entries()", 0, desk.entries());
        for (int rank = 0; rank < 8; rank++) {
            Check.due("new percentage", 0, desk.percentage(rank));
            Check.due("new greatest", 10000, desk.greatest(rank));
        }
        Check.refused("new told", Check.INDEX, desk, () -> desk.told(0, 0));
        Check.refused("new realise", Check.INDEX, desk, () -> desk.realise(0, 1));
        Check.refused("new entry", Check.INDEX, desk, () -> desk.entry(0, 0));
        TrusteeDesk other = new TrusteeDesk();
        other.claim(0, 5);
        Check.refused("objects share nothing", Check.INDEX, desk, () -> desk.told(0, 0));
    }

    private static void claim() {
        TrusteeDesk desk = new TrusteeDesk();
        Check.due("first claim", 0, desk.claim(7, 1));
        Check.due("second claim", 1, desk.claim(0, 400000000));
        Check.due("rank", 7, desk.told(0, 0));
        Check.claim("first", desk, 0, 0, 1, 0, 0, 0, 0, 1, 0, 0);
        Check.claim("second", desk, 1, 0, 400000000, 0, 0, 0, 0, 400000000, 0, 0);
        Check.refused("rank 8", Check.ARGUMENT, desk, () -> desk.claim(8, 1));
        Check.refused("rank -1", Check.ARGUMENT, desk, () -> desk.claim(-1, 1));
        Check.refused("least rank", Check.ARGUMENT, desk, () -> desk.claim(Integer.MIN_VALUE, 1));
        Check.refused("0 cents", Check.ARGUMENT, desk, () -> desk.claim(0, 0));
        Check.refused("-1 cents", Check.ARGUMENT, desk, () -> desk.claim(0, -1));
        Check.refused("too many cents", Check.ARGUMENT, desk, () -> desk.claim(0, 400000001));
        Check.refused("cents beyond int", Check.ARGUMENT, desk, () -> desk.claim(0, (1L << 32) + 1));
        desk.end();
        Check.refused("claim behind end", Check.STATE, desk, () -> desk.claim(0, 1));
        Check.refused("wrong claim behind end", Check.ARGUMENT, desk, () -> desk.claim(8, 1));
    }

    private static void claimsAtTheirMost() {
        TrusteeDesk desk = new TrusteeDesk();
        for (int i = 0; i < 60; i++) {
            Check.due("claim", i, desk.claim(i % 8, i + 1));
        }
        Check.refused("claim 60", Check.UNSUPPORTED, desk, () -> desk.claim(0, 1));
        Check.refused("wrong claim 60", Check.ARGUMENT, desk, () -> desk.claim(0, 0));
        desk.end();
        Check.refused("claim 60 behind end", Check.UNSUPPORTED, desk, () -> desk.claim(0, 1));
    }

    private static void owes() {
        TrusteeDesk desk = new TrusteeDesk();
        desk.claim(0, 100);
        Check.due("owes 30", 30, desk.owes(0, 30));
        Check.claim("owes 30", desk, 0, 0, 100, 30, 0, 0, 0, 70, 0, 0);
        Check.due("owes 0", 30, desk.owes(0, 0));
        Check.due("owes as much", 100, desk.owes(0, 70));
        Check.due("net is 0", 0, desk.told(0, 7));
        for (int i = 1; i <= 8; i++) {
            Check.due("debt beyond int", 100 + i * 400000000L, desk.owes(0, 400000000));
        }
        Check.due("net is not below 0", 0, desk.told(0, 7));
        Check.refused("owes -1", Check.ARGUMENT, desk, () -> desk.owes(0, -1));
        Check.refused("owes too much", Check.ARGUMENT, desk, () -> desk.owes(0, 400000001));
        Check.refused("owes, no claim", Check.INDEX, desk, () -> desk.owes(1, -1));
        Check.refused("owes, claim -1", Check.INDEX, desk, () -> desk.owes(-1, 1));
        desk.end();
        Check.refused("owes behind end", Check.STATE, desk, () -> desk.owes(0, 1));
        Check.refused("owes wrong cents behind end", Check.ARGUMENT, desk, () -> desk.owes(0, -1));
    }

    private static void owesWhereItMayNot() {
        TrusteeDesk desk = Check.deskWith(1000);
        desk.claim(0, 100);
        desk.claim(0, 100);
        desk.claim(0, 100);
        desk.contest(1);
        Check.due("owes of a contested claim", 10, desk.owes(1, 10));
        desk.dividend(0, 1000);
        Check.refused("owes when paid", Check.STATE, desk, () -> desk.owes(0, 1));
        Check.refused("owes when reserved", Check.STATE, desk, () -> desk.owes(1, 1));
        Check.refused("owes 0 when paid", Check.STATE, desk, () -> desk.owes(0, 0));
        desk.claim(0, 100);
        desk.contest(3);
        desk.settle(3, 0);
        Check.refused("owes when OUT", Check.STATE, desk, () -> desk.owes(3, 1));
        Check.refused("wrong owes when OUT", Check.ARGUMENT, desk, () -> desk.owes(3, -1));
    }

    private static void asset() {
        TrusteeDesk desk = new TrusteeDesk();
        for (int i = 0; i < 20; i++) {
            Check.due("asset", i, desk.asset());
        }
        Check.refused("asset 20", Check.UNSUPPORTED, desk, desk::asset);
        for (int i = 0; i < 20; i++) {
            Check.due("realise without securities", i, desk.realise(i, i));
        }
        desk.end();
        Check.refused("asset 20 behind end", Check.UNSUPPORTED, desk, desk::asset);
        TrusteeDesk ended = new TrusteeDesk();
        ended.end();
        Check.refused("asset behind end", Check.STATE, ended, ended::asset);
    }

    private static void secure() {
        TrusteeDesk desk = new TrusteeDesk();
        desk.asset();
        desk.asset();
        for (int i = 0; i < 5; i++) {
            desk.claim(0, 100);
        }
        for (int i = 0; i < 4; i++) {
            Check.due("not open yet", 0, desk.told(i, 9));
            Check.due("secure", i + 1, desk.secure(0, i, i == 3 ? 400000000 : 1));
            Check.due("open now", 1, desk.told(i, 9));
        }
        Check.due("secure in another asset", 1, desk.secure(1, 0, 5));
        desk.contest(4);
        Check.due("secure of a contested claim", 2, desk.secure(1, 4, 5));
        Check.refused("fifth security", Check.UNSUPPORTED, desk, () -> desk.secure(0, 4, 1));
        Check.refused("fifth security of one that has one", Check.UNSUPPORTED, desk, () -> desk.secure(0, 0, 1));
        Check.refused("limit 0", Check.ARGUMENT, desk, () -> desk.secure(1, 1, 0));
        Check.refused("limit -1", Check.ARGUMENT, desk, () -> desk.secure(1, 1, -1));
        Check.refused("limit too great", Check.ARGUMENT, desk, () -> desk.secure(1, 1, 400000001));
        Check.refused("no such asset", Check.INDEX, desk, () -> desk.secure(2, 1, 0));
        Check.refused("asset -1", Check.INDEX, desk, () -> desk.secure(-1, 1, 1));
        Check.refused("no such claim", Check.INDEX, desk, () -> desk.secure(1, 5, 0));
        Check.refused("claim -1", Check.INDEX, desk, () -> desk.secure(1, -1, 1));
    }

    private static void secureWhereItMayNot() {
        TrusteeDesk desk = Check.deskWith(1000);
        desk.asset();
        for (int i = 0; i < 5; i++) {
            desk.claim(0, 100);
        }
        desk.contest(1);
        desk.contest(2);
        desk.settle(2, 0);
        desk.secure(1, 3, 5);
        Check.refused("realised asset", Check.STATE, desk, () -> desk.secure(0, 4, 1));
        Check.refused("secured already", Check.STATE, desk, () -> desk.secure(1, 3, 1));
        Check.refused("OUT", Check.STATE, desk, () -> desk.secure(1, 2, 1));
        desk.dividend(0, 100);
        Check.refused("paid", Check.STATE, desk, () -> desk.secure(1, 0, 1));
        Check.refused("reserved", Check.STATE, desk, () -> desk.secure(1, 1, 1));
        desk.claim(0, 50);
        Check.due("a fresh one may", 2, desk.secure(1, 5, 1));
    }

    private static void secureOrderOfExceptions() {
        TrusteeDesk desk = new TrusteeDesk();
        desk.asset();
        for (int i = 0; i < 5; i++) {
            desk.claim(0, 100);
        }
        for (int i = 0; i < 4; i++) {
            desk.secure(0, i, 1);
        }
        desk.realise(0, 0);
        desk.asset();
        desk.realise(1, 0);
        desk.end();
        Check.refused("argument before four", Check.ARGUMENT, desk, () -> desk.secure(0, 4, 0));
        Check.refused("four before realised and end", Check.UNSUPPORTED, desk, () -> desk.secure(0, 4, 1));
        Check.refused("behind end", Check.STATE, desk, () -> desk.secure(1, 4, 1));
        Check.refused("index behind end", Check.INDEX, desk, () -> desk.secure(2, 4, 1));
    }
}
