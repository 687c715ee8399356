/** What "Terms" says of all exceptions: behind end(), which of several comes first, what there is none of. */
public final class RefusalsTest {
    public static void main(String[] args) {
        behindEnd();
        behindEndAnotherComesFirst();
        behindEndTheOthersAnswer();
        orderInClaim();
        orderInOwes();
        orderInAsset();
        orderInSecure();
        orderInRealise();
        orderInContest();
        orderInSettle();
        orderInCost();
        orderInDividend();
        orderInToldAndEntry();
        noSuchClaim();
        noSuchAsset();
        noSuchEntry();
        Check.finish();
    }

    /** Two claims, one of them OUT, one asset, 100 cents in the cash, and the end. */
    private static TrusteeDesk endedDesk() {
        TrusteeDesk desk = Check.deskWith(150);
        desk.claim(0, 50);
        desk.claim(0, 50);
        desk.contest(1);
        desk.end();
        return desk;
    }

    private static void behindEnd() {
        Check.sentence("Behind end() all calls that name IllegalState throw it");
        TrusteeDesk desk = endedDesk();
        Check.refused("claim", Check.STATE, desk, () -> desk.claim(0, 1));
        Check.refused("owes", Check.STATE, desk, () -> desk.owes(0, 0));
        Check.refused("asset", Check.STATE, desk, desk::asset);
        Check.refused("secure", Check.STATE, desk, () -> desk.secure(0, 0, 1));
        Check.refused("realise", Check.STATE, desk, () -> desk.realise(0, 0));
        Check.refused("contest", Check.STATE, desk, () -> desk.contest(0));
        Check.refused("settle", Check.STATE, desk, () -> desk.settle(1, 0));
        Check.refused("cost 0", Check.STATE, desk, () -> desk.cost(0));
        Check.refused("cost of what the cash has", Check.STATE, desk, () -> desk.cost(100));
        Check.refused("dividend", Check.STATE, desk, () -> desk.dividend(0, 10000));
        Check.refused("dividend of an empty rank", Check.STATE, desk, () -> desk.dividend(7, 1));
        Check.refused("catchUp", Check.STATE, desk, desk::catchUp);
        Check.refused("end", Check.STATE, desk, desk::end);
        TrusteeDesk fresh = Check.deskWith(0);
        fresh.claim(0, 5);
        fresh.end();
        Check.refused("owes of a fresh claim", Check.STATE, fresh, () -> fresh.owes(0, 1));
        Check.refused("contest of a fresh claim", Check.STATE, fresh, () -> fresh.contest(0));
    }

    private static void behindEndAnotherComesFirst() {
        Check.sentence("Behind end() .. unless another exception comes first");
        TrusteeDesk desk = endedDesk();
        Check.refused("claim, rank", Check.ARGUMENT, desk, () -> desk.claim(8, 1));
        Check.refused("claim, cents", Check.ARGUMENT, desk, () -> desk.claim(0, 0));
        Check.refused("owes, claim", Check.INDEX, desk, () -> desk.owes(2, 1));
        Check.refused("owes, cents", Check.ARGUMENT, desk, () -> desk.owes(0, -1));
        Check.refused("secure, asset", Check.INDEX, desk, () -> desk.secure(1, 0, 1));
        Check.refused("secure, claim", Check.INDEX, desk, () -> desk.secure(0, 2, 1));
        Check.refused("secure, limit", Check.ARGUMENT, desk, () -> desk.secure(0, 0, 0));
        Check.refused("realise, asset", Check.INDEX, desk, () -> desk.realise(1, 0));
        Check.refused("realise, cents", Check.ARGUMENT, desk, () -> desk.realise(0, -1));
        Check.refused("contest, claim", Check.INDEX, desk, () -> desk.contest(2));
        Check.refused("settle, claim", Check.INDEX, desk, () -> desk.settle(2, 0));
        Check.refused("settle, cents", Check.ARGUMENT, desk, () -> desk.settle(0, 51));
        Check.refused("cost, cents", Check.ARGUMENT, desk, () -> desk.cost(-1));
        Check.refused("dividend, rank", Check.ARGUMENT, desk, () -> desk.dividend(8, 1));
        Check.refused("dividend, percentage", Check.ARGUMENT, desk, () -> desk.dividend(0, 0));
        TrusteeDesk full = fullDesk();
        full.end();
        Check.refused("claim, there are 60", Check.UNSUPPORTED, full, () -> full.claim(0, 1));
        Check.refused("asset, there are 20", Check.UNSUPPORTED, full, full::asset);
        Check.refused("secure, it has 4", Check.UNSUPPORTED, full, () -> full.secure(0, 4, 1));
        Check.refused("dividend, where the cash comes behind", Check.STATE, full, () -> full.dividend(0, 10000));
    }

    /** 60 claims, 20 assets, all realised for nothing, the first with 4 securities. */
    private static TrusteeDesk fullDesk() {
        TrusteeDesk desk = new TrusteeDesk();
        for (int i = 0; i < 60; i++) {
            desk.claim(0, 10);
        }
        for (int i = 0; i < 20; i++) {
            desk.asset();
        }
        for (int i = 0; i < 4; i++) {
            desk.secure(0, i, 1);
        }
        for (int i = 0; i < 20; i++) {
            desk.realise(i, 0);
        }
        return desk;
    }

    private static void behindEndTheOthersAnswer() {
        Check.sentence("Behind end() all calls that name IllegalState .. and no others");
        TrusteeDesk desk = endedDesk();
        Check.due("greatest", TrusteeDesk.NONE, desk.greatest(0));
        Check.claim("told", desk, 0, 0, 50, 0, 0, 50, 0, 50, 0, 0);
        Check.claim("told", desk, 1, 2, 50, 0, 0, 0, 0, 0, 0, 0);
        Check.due("percentage", 0, desk.percentage(0));
        Check.sums("sum", desk, 100, 0, 150, 0, 0, 50);
        Check.journal("entries, entry", desk, 0, 1, 0, 150, 8, 0, 50);
    }

    private static void orderInClaim() {
        Check.sentence("claim: IllegalArgument, UnsupportedOperation, IllegalState, the first one that fits");
        TrusteeDesk desk = fullDesk();
        Check.refused("rank before 60", Check.ARGUMENT, desk, () -> desk.claim(-1, 1));
        Check.refused("cents before 60", Check.ARGUMENT, desk, () -> desk.claim(0, 0));
        Check.refused("60", Check.UNSUPPORTED, desk, () -> desk.claim(0, 1));
        desk.end();
        Check.refused("rank before the end", Check.ARGUMENT, desk, () -> desk.claim(-1, 1));
        Check.refused("60 before the end", Check.UNSUPPORTED, desk, () -> desk.claim(0, 1));
    }

    private static void orderInOwes() {
        Check.sentence("owes: IndexOutOfBounds, IllegalArgument, IllegalState, the first one that fits");
        TrusteeDesk desk = new TrusteeDesk();
        desk.claim(0, 10);
        desk.contest(0);
        desk.settle(0, 0);
        Check.refused("claim before cents", Check.INDEX, desk, () -> desk.owes(1, -1));
        Check.refused("cents before OUT", Check.ARGUMENT, desk, () -> desk.owes(0, -1));
        Check.refused("OUT", Check.STATE, desk, () -> desk.owes(0, 1));
    }

    private static void orderInAsset() {
        Check.sentence("asset: UnsupportedOperation, IllegalState, the first one that fits");
        TrusteeDesk desk = fullDesk();
        desk.end();
        Check.refused("20 before the end", Check.UNSUPPORTED, desk, desk::asset);
    }

    private static void orderInSecure() {
        Check.sentence("secure: IndexOutOfBounds, IllegalArgument, UnsupportedOperation, IllegalState,"
                + " the first one that fits");
        TrusteeDesk desk = fullDesk();
        Check.refused("asset before limit", Check.INDEX, desk, () -> desk.secure(20, 0, 0));
        Check.refused("claim before limit", Check.INDEX, desk, () -> desk.secure(0, 60, 0));
        Check.refused("asset and claim before limit", Check.INDEX, desk, () -> desk.secure(-1, -1, -1));
        Check.refused("limit before 4", Check.ARGUMENT, desk, () -> desk.secure(0, 0, 0));
        Check.refused("limit before realised", Check.ARGUMENT, desk, () -> desk.secure(1, 0, 0));
        Check.refused("4 before realised", Check.UNSUPPORTED, desk, () -> desk.secure(0, 4, 1));
        Check.refused("4 before one in it already", Check.UNSUPPORTED, desk, () -> desk.secure(0, 0, 1));
        Check.refused("realised", Check.STATE, desk, () -> desk.secure(1, 0, 1));
    }

    private static void orderInRealise() {
        Check.sentence("realise: IndexOutOfBounds, IllegalArgument, IllegalState, the first one that fits");
        TrusteeDesk desk = Check.deskWith(5);
        Check.refused("asset before cents", Check.INDEX, desk, () -> desk.realise(1, -1));
        Check.refused("cents before realised", Check.ARGUMENT, desk, () -> desk.realise(0, -1));
        Check.refused("realised", Check.STATE, desk, () -> desk.realise(0, 1));
        desk.asset();
        desk.claim(0, 5);
        desk.secure(1, 0, 5);
        desk.contest(0);
        Check.refused("cents before CONTESTED", Check.ARGUMENT, desk, () -> desk.realise(1, 400000001));
        Check.refused("CONTESTED", Check.STATE, desk, () -> desk.realise(1, 400000000));
    }

    private static void orderInContest() {
        Check.sentence("contest: IndexOutOfBounds, IllegalState, the first one that fits");
        TrusteeDesk desk = endedDesk();
        Check.refused("claim before the end", Check.INDEX, desk, () -> desk.contest(2));
        Check.refused("the end", Check.STATE, desk, () -> desk.contest(1));
    }

    private static void orderInSettle() {
        Check.sentence("settle: IndexOutOfBounds, IllegalArgument, IllegalState, the first one that fits");
        TrusteeDesk desk = new TrusteeDesk();
        desk.claim(0, 10);
        Check.refused("claim before cents", Check.INDEX, desk, () -> desk.settle(1, -1));
        Check.refused("below 0 before ADMITTED", Check.ARGUMENT, desk, () -> desk.settle(0, -1));
        Check.refused("above before ADMITTED", Check.ARGUMENT, desk, () -> desk.settle(0, 11));
        Check.refused("ADMITTED", Check.STATE, desk, () -> desk.settle(0, 10));
        desk.contest(0);
        desk.settle(0, 0);
        Check.refused("above before OUT", Check.ARGUMENT, desk, () -> desk.settle(0, 11));
        Check.refused("OUT", Check.STATE, desk, () -> desk.settle(0, 0));
    }

    private static void orderInCost() {
        Check.sentence("cost: IllegalArgument, IllegalState, the first one that fits");
        TrusteeDesk desk = new TrusteeDesk();
        Check.refused("cents before cash", Check.ARGUMENT, desk, () -> desk.cost(400000001));
        Check.refused("cash", Check.STATE, desk, () -> desk.cost(400000000));
    }

    private static void orderInDividend() {
        Check.sentence("dividend: IllegalArgument, IllegalState, UnsupportedOperation, the first one that fits");
        TrusteeDesk desk = new TrusteeDesk();
        desk.dividend(1, 5000);
        desk.claim(0, 10000);
        desk.claim(1, 10000);
        Check.refused("rank before all", Check.ARGUMENT, desk, () -> desk.dividend(8, 1));
        Check.refused("percentage 0 before not above", Check.ARGUMENT, desk, () -> desk.dividend(1, 0));
        Check.refused("percentage 10001 before in the way", Check.ARGUMENT, desk, () -> desk.dividend(1, 10001));
        Check.refused("in the way before cash", Check.STATE, desk, () -> desk.dividend(1, 10000));
        Check.refused("not above before cash", Check.STATE, desk, () -> desk.dividend(1, 5000));
        Check.refused("cash", Check.UNSUPPORTED, desk, () -> desk.dividend(0, 10000));
    }

    private static void orderInToldAndEntry() {
        Check.sentence("told, entry: IndexOutOfBounds, IllegalArgument, the first one that fits");
        TrusteeDesk desk = Check.deskWith(5);
        desk.claim(0, 10);
        Check.refused("claim before what", Check.INDEX, desk, () -> desk.told(1, 10));
        Check.refused("what of a claim", Check.ARGUMENT, desk, () -> desk.told(0, 10));
        Check.refused("entry before what", Check.INDEX, desk, () -> desk.entry(1, 3));
        Check.refused("what of an entry", Check.ARGUMENT, desk, () -> desk.entry(0, 3));
    }

    private static void noSuchClaim() {
        Check.sentence("IndexOutOfBounds: there is no such claim");
        TrusteeDesk desk = new TrusteeDesk();
        desk.asset();
        for (int claims = 0; claims <= 60; claims++) {
            for (int claim : Check.noNumbers(claims)) {
                Check.refused("owes " + claim, Check.INDEX, desk, () -> desk.owes(claim, 1));
                Check.refused("secure " + claim, Check.INDEX, desk, () -> desk.secure(0, claim, 1));
                Check.refused("contest " + claim, Check.INDEX, desk, () -> desk.contest(claim));
                Check.refused("settle " + claim, Check.INDEX, desk, () -> desk.settle(claim, 0));
                Check.refused("told " + claim, Check.INDEX, desk, () -> desk.told(claim, 0));
            }
            if (claims < 60) {
                desk.claim(0, 1);
            }
        }
    }

    private static void noSuchAsset() {
        Check.sentence("IndexOutOfBounds: there is no such .. asset");
        TrusteeDesk desk = new TrusteeDesk();
        desk.claim(0, 1);
        for (int assets = 0; assets <= 20; assets++) {
            for (int asset : Check.noNumbers(assets)) {
                Check.refused("secure " + asset, Check.INDEX, desk, () -> desk.secure(asset, 0, 1));
                Check.refused("realise " + asset, Check.INDEX, desk, () -> desk.realise(asset, 1));
            }
            if (assets < 20) {
                desk.asset();
            }
        }
    }

    private static void noSuchEntry() {
        Check.sentence("IndexOutOfBounds: there is no such .. entry");
        TrusteeDesk desk = Check.deskWith(10);
        for (int entries = 1; entries <= 10; entries++) {
            Check.due("entries", entries, desk.entries());
            for (int entry : Check.noNumbers(entries)) {
                Check.refused("entry " + entry, Check.INDEX, desk, () -> desk.entry(entry, 0));
            }
            desk.cost(1);
        }
    }
}
