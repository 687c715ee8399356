/** The edges that promises 1 to 5 name: a method for each sentence. */
public final class RegisterEdgesTest {
    public static void main(String[] args) {
        newObjectIsEmpty();
        newClaim();
        claimOfNoRank();
        claimOfNoCents();
        claimsAreSixty();
        claimBehindEnd();
        owesIsMore();
        owesNoCents();
        owesOut();
        owesNotFresh();
        newAsset();
        assetsAreTwenty();
        assetBehindEnd();
        secureCounts();
        secureAsTheLast();
        secureUpToALimit();
        secureNoLimit();
        secureTheFifth();
        secureInARealisedOne();
        secureTwice();
        secureOut();
        secureNotFresh();
        Check.finish();
    }

    private static void newObjectIsEmpty() {
        Check.sentence("No claims, no assets, no cash");
        TrusteeDesk desk = new TrusteeDesk();
        Check.refused("no claims", Check.INDEX, desk, () -> desk.told(0, 0));
        Check.refused("no assets", Check.INDEX, desk, () -> desk.realise(0, 0));
        Check.refused("no entries", Check.INDEX, desk, () -> desk.entry(0, 0));
        Check.refused("no cash", Check.STATE, desk, () -> desk.cost(1));
        Check.sums("no cash, nor anything else", desk, 0, 0, 0, 0, 0, 0);
        Check.due("nobody lacks anything", 0, desk.catchUp());
        Check.due("a dividend for nobody", 0, desk.dividend(7, 10000));
        Check.due("an end of nothing", 0, desk.end());
    }

    private static void newClaim() {
        Check.sentence("A new claim, ADMITTED: its number");
        TrusteeDesk desk = new TrusteeDesk();
        for (int i = 0; i < 60; i++) {
            Check.due("its number", i, desk.claim(7 - i % 8, i + 1));
            Check.due("its rank", 7 - i % 8, desk.told(i, 0));
            Check.claim("new", desk, i, 0, i + 1, 0, 0, 0, 0, i + 1, 0, 0);
        }
    }

    private static void claimOfNoRank() {
        Check.sentence("claim, IllegalArgument: there is no such rank");
        TrusteeDesk desk = new TrusteeDesk();
        for (int rank : Check.noNumbers(8)) {
            Check.refused("rank " + rank, Check.ARGUMENT, desk, () -> desk.claim(rank, 1));
        }
        Check.due("the first rank", 0, desk.claim(0, 1));
        Check.due("the last rank", 1, desk.claim(7, 1));
    }

    private static void claimOfNoCents() {
        Check.sentence("claim, IllegalArgument: .. cents are 0 or none");
        TrusteeDesk desk = new TrusteeDesk();
        Check.refused("0", Check.ARGUMENT, desk, () -> desk.claim(0, 0));
        for (long cents : Check.NO_CENTS) {
            Check.refused("cents " + cents, Check.ARGUMENT, desk, () -> desk.claim(0, cents));
        }
        Check.due("1", 0, desk.claim(0, 1));
        Check.due("400000000", 1, desk.claim(0, 400000000));
    }

    private static void claimsAreSixty() {
        Check.sentence("claim, UnsupportedOperation: there are 60");
        TrusteeDesk desk = new TrusteeDesk();
        for (int i = 0; i < 59; i++) {
            desk.claim(0, 1);
        }
        desk.contest(3);
        desk.settle(3, 0);
        Check.due("the 60th, as OUT counts too", 59, desk.claim(0, 1));
        for (int rank = 0; rank < 8; rank++) {
            int wanted = rank;
            Check.refused("the 61st", Check.UNSUPPORTED, desk, () -> desk.claim(wanted, 1));
        }
    }

    private static void claimBehindEnd() {
        Check.sentence("claim: .. IllegalState");
        TrusteeDesk desk = new TrusteeDesk();
        desk.end();
        Check.refused("behind end", Check.STATE, desk, () -> desk.claim(0, 1));
    }

    private static void owesIsMore() {
        Check.sentence("A claim's debt is more by some cents: the debt");
        TrusteeDesk desk = new TrusteeDesk();
        desk.claim(0, 1);
        desk.claim(0, 1);
        Check.due("0 more", 0, desk.owes(1, 0));
        Check.due("1 more", 1, desk.owes(1, 1));
        for (int i = 1; i <= 450; i++) {
            Check.due("the most each time", 1 + i * 400000000L, desk.owes(1, 400000000));
        }
        Check.due("it is told so", 1 + 450 * 400000000L, desk.told(1, 3));
        Check.due("another's debt", 0, desk.told(0, 3));
    }

    private static void owesNoCents() {
        Check.sentence("owes, IllegalArgument: no such cents");
        TrusteeDesk desk = new TrusteeDesk();
        desk.claim(0, 10);
        for (long cents : Check.NO_CENTS) {
            Check.refused("cents " + cents, Check.ARGUMENT, desk, () -> desk.owes(0, cents));
        }
    }

    private static void owesOut() {
        Check.sentence("owes, IllegalState: it is OUT");
        TrusteeDesk desk = new TrusteeDesk();
        desk.claim(0, 10);
        desk.contest(0);
        Check.due("CONTESTED", 3, desk.owes(0, 3));
        desk.settle(0, 0);
        Check.refused("OUT", Check.STATE, desk, () -> desk.owes(0, 3));
        Check.refused("OUT, 0 cents", Check.STATE, desk, () -> desk.owes(0, 0));
    }

    private static void owesNotFresh() {
        Check.sentence("owes, IllegalState: .. not fresh");
        TrusteeDesk desk = Check.deskWith(2);
        desk.claim(0, 1);
        desk.claim(0, 1);
        desk.contest(1);
        desk.dividend(0, 9999);
        Check.due("served with nothing", 0, desk.owes(0, 0));
        Check.due("served with nothing", 0, desk.owes(1, 0));
        desk.dividend(0, 10000);
        Check.refused("a cent was paid", Check.STATE, desk, () -> desk.owes(0, 0));
        Check.refused("a cent is reserved", Check.STATE, desk, () -> desk.owes(1, 0));
    }

    private static void newAsset() {
        Check.sentence("A new asset, without securities: its number");
        TrusteeDesk desk = new TrusteeDesk();
        desk.claim(0, 100);
        desk.claim(0, 100);
        for (int i = 0; i < 20; i++) {
            Check.due("its number", i, desk.asset());
            Check.due("its first security", 1, desk.secure(i, 0, 1));
        }
    }

    private static void assetsAreTwenty() {
        Check.sentence("asset, UnsupportedOperation: there are 20");
        TrusteeDesk desk = new TrusteeDesk();
        for (int i = 0; i < 19; i++) {
            desk.asset();
            desk.realise(i, 1);
        }
        Check.due("the 20th, as realised ones count too", 19, desk.asset());
        Check.refused("the 21st", Check.UNSUPPORTED, desk, desk::asset);
        Check.refused("again", Check.UNSUPPORTED, desk, desk::asset);
    }

    private static void assetBehindEnd() {
        Check.sentence("asset: .. IllegalState");
        TrusteeDesk desk = new TrusteeDesk();
        desk.end();
        Check.refused("behind end", Check.STATE, desk, desk::asset);
    }

    /** A desk with this many claims of 100 cents in rank 0, and the assets 0 and 1. */
    private static TrusteeDesk deskOf(int claims) {
        TrusteeDesk desk = new TrusteeDesk();
        desk.asset();
        desk.asset();
        for (int i = 0; i < claims; i++) {
            desk.claim(0, 100);
        }
        return desk;
    }

    private static void secureCounts() {
        Check.sentence("A claim gets security in an asset ..: how many the asset has");
        TrusteeDesk desk = deskOf(4);
        for (int i = 0; i < 4; i++) {
            Check.due("asset 0", i + 1, desk.secure(0, i, 1));
            Check.due("asset 1", i + 1, desk.secure(1, 3 - i, 1));
        }
    }

    private static void secureAsTheLast() {
        Check.sentence("A claim gets security in an asset, as the last one");
        TrusteeDesk desk = deskOf(3);
        desk.secure(0, 2, 100);
        desk.secure(0, 0, 100);
        desk.secure(0, 1, 100);
        desk.realise(0, 201);
        Check.journal("the last gets what is left", desk, 0, 1, 0, 201, 2, 2, 100, 2, 0, 100, 2, 1, 1);
    }

    private static void secureUpToALimit() {
        Check.sentence("A claim gets security in an asset .. up to a limit");
        TrusteeDesk desk = deskOf(2);
        desk.secure(0, 0, 1);
        desk.secure(0, 1, 400000000);
        desk.realise(0, 400000000);
        Check.due("the least limit", 1, desk.told(0, 4));
        Check.due("the greatest limit", 100, desk.told(1, 4));
    }

    private static void secureNoLimit() {
        Check.sentence("secure, IllegalArgument: the limit is 0, or no cents");
        TrusteeDesk desk = deskOf(1);
        Check.refused("0", Check.ARGUMENT, desk, () -> desk.secure(0, 0, 0));
        for (long limit : Check.NO_CENTS) {
            Check.refused("limit " + limit, Check.ARGUMENT, desk, () -> desk.secure(0, 0, limit));
        }
        Check.due("none of them is there", 1, desk.secure(0, 0, 1));
    }

    private static void secureTheFifth() {
        Check.sentence("secure, UnsupportedOperation: it has 4");
        TrusteeDesk desk = deskOf(6);
        for (int i = 0; i < 4; i++) {
            desk.secure(0, i, 1);
        }
        Check.refused("the fifth", Check.UNSUPPORTED, desk, () -> desk.secure(0, 4, 1));
        desk.contest(0);
        desk.settle(0, 0);
        Check.refused("one of an OUT claim counts too", Check.UNSUPPORTED, desk, () -> desk.secure(0, 5, 1));
        desk.realise(0, 100);
        Check.sums("a limit of 1 for three", desk, 97, 0, 100, 0, 3, 0);
    }

    private static void secureInARealisedOne() {
        Check.sentence("secure, IllegalState: it is realised");
        TrusteeDesk desk = deskOf(1);
        desk.realise(0, 0);
        Check.refused("realised for 0 cents", Check.STATE, desk, () -> desk.secure(0, 0, 1));
        Check.due("the other is not", 1, desk.secure(1, 0, 1));
    }

    private static void secureTwice() {
        Check.sentence("secure, IllegalState: .. the claim has one in it already");
        TrusteeDesk desk = deskOf(3);
        for (int i = 0; i < 3; i++) {
            desk.secure(0, i, 1);
        }
        for (int i = 0; i < 3; i++) {
            int claim = i;
            Check.refused("again", Check.STATE, desk, () -> desk.secure(0, claim, 1));
        }
        Check.due("in another asset", 1, desk.secure(1, 2, 1));
    }

    private static void secureOut() {
        Check.sentence("secure, IllegalState: .. the claim .. is OUT");
        TrusteeDesk desk = deskOf(1);
        desk.contest(0);
        Check.due("CONTESTED", 1, desk.secure(0, 0, 1));
        desk.settle(0, 0);
        Check.refused("OUT", Check.STATE, desk, () -> desk.secure(1, 0, 1));
    }

    private static void secureNotFresh() {
        Check.sentence("secure, IllegalState: .. the claim .. not fresh");
        TrusteeDesk desk = deskOf(3);
        desk.asset();
        desk.realise(0, 300);
        desk.contest(1);
        desk.secure(1, 2, 1);
        desk.dividend(0, 99);
        Check.due("served with nothing", 1, desk.secure(2, 0, 1));
        TrusteeDesk late = deskOf(3);
        late.asset();
        late.realise(0, 300);
        late.contest(1);
        late.secure(1, 2, 1);
        late.dividend(0, 100);
        for (int i = 0; i < 3; i++) {
            int claim = i;
            Check.refused("a cent was paid or is reserved", Check.STATE, late, () -> late.secure(2, claim, 1));
        }
    }
}
