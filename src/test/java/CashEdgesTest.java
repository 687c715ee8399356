/** The edges that promises 9 to 12 name (cost, dividend, greatest, catchUp): a method for each sentence. */
public final class CashEdgesTest {
    public static void main(String[] args) {
        costIsSpent();
        costNoCents();
        costMoreThanTheCash();
        dividendServesThatLack();
        dividendOfNoRank();
        dividendOfNoPercentage();
        dividendNotAbove();
        dividendBehindARank();
        dividendMoreThanTheCash();
        greatestNotRefused();
        greatestIsItsOwn();
        greatestInTheWay();
        greatestAtTheEnd();
        greatestOfNoRank();
        catchUpServesThatLack();
        catchUpWithWhatIsLeft();
        catchUpBehindEnd();
        Check.finish();
    }

    private static void costIsSpent() {
        Check.sentence("Some cents of the cash are spent: the cash then");
        TrusteeDesk desk = Check.deskWith(400000000);
        desk.asset();
        desk.realise(1, 400000000);
        Check.due("0", 800000000, desk.cost(0));
        Check.due("1", 799999999, desk.cost(1));
        Check.due("the most", 399999999, desk.cost(400000000));
        Check.due("all there is", 0, desk.cost(399999999));
        Check.due("0 of nothing", 0, desk.cost(0));
        Check.sums("spent", desk, 0, 0, 800000000, 800000000, 0, 0);
        Check.journal("-1", desk, 2, 3, -1, 1, 3, -1, 400000000, 3, -1, 399999999);
    }

    private static void costNoCents() {
        Check.sentence("cost, IllegalArgument: no such cents");
        TrusteeDesk desk = Check.deskWith(400000000);
        desk.asset();
        desk.realise(1, 400000000);
        for (long cents : Check.NO_CENTS) {
            Check.refused("cents " + cents, Check.ARGUMENT, desk, () -> desk.cost(cents));
        }
    }

    private static void costMoreThanTheCash() {
        Check.sentence("cost, IllegalState: the cash has less");
        TrusteeDesk desk = Check.deskWith(10);
        Check.refused("one more", Check.STATE, desk, () -> desk.cost(11));
        desk.claim(0, 10);
        desk.contest(0);
        desk.dividend(0, 4000);
        Check.refused("what is reserved is not in the cash", Check.STATE, desk, () -> desk.cost(7));
        Check.due("all of it", 0, desk.cost(6));
        Check.refused("1 of nothing", Check.STATE, desk, () -> desk.cost(1));
    }

    private static void dividendServesThatLack() {
        Check.sentence("then all claims of it, and of those before it, that lack something are served with that,"
                + " by ranks, then numbers: how many cents");
        TrusteeDesk desk = Check.deskWith(1000);
        Check.due("for nobody", 0, desk.dividend(0, 10000));
        Check.due("for nobody", 0, desk.dividend(7, 1));
        desk.claim(7, 10000);
        desk.claim(6, 5);
        desk.claim(0, 4);
        desk.claim(6, 3);
        Check.due("rank 6 and rank 0, not rank 7", 12, desk.dividend(6, 10000));
        Check.journal("by ranks, then numbers", desk, 1, 4, 2, 4, 4, 1, 5, 4, 3, 3);
        Check.due("a cent of rank 7, and one more", 2, desk.dividend(7, 2));
        Check.journal("no entry for those that lack nothing", desk, 4, 4, 0, 2);
    }

    private static void dividendOfNoRank() {
        Check.sentence("dividend, IllegalArgument: there is no such rank");
        TrusteeDesk desk = Check.deskWith(1000);
        for (int rank : Check.noNumbers(8)) {
            Check.refused("rank " + rank, Check.ARGUMENT, desk, () -> desk.dividend(rank, 1));
        }
        Check.due("the first", 0, desk.dividend(0, 1));
        Check.due("the last", 0, desk.dividend(7, 1));
    }

    private static void dividendOfNoPercentage() {
        Check.sentence("dividend, IllegalArgument: .. the percentage is not 1 .. 10000");
        TrusteeDesk desk = Check.deskWith(1000);
        for (int percentage : new int[] {0, -1, 10001, Integer.MIN_VALUE, Integer.MAX_VALUE, 65536 + 1}) {
            Check.refused("percentage " + percentage, Check.ARGUMENT, desk, () -> desk.dividend(3, percentage));
        }
        Check.due("1", 0, desk.dividend(3, 1));
        Check.due("10000", 0, desk.dividend(3, 10000));
        Check.refused("10001, where it has 10000", Check.ARGUMENT, desk, () -> desk.dividend(3, 10001));
    }

    private static void dividendNotAbove() {
        Check.sentence("dividend, IllegalState: it is not above the rank's");
        TrusteeDesk desk = Check.deskWith(1000);
        desk.claim(0, 100);
        desk.dividend(0, 5000);
        Check.refused("below", Check.STATE, desk, () -> desk.dividend(0, 4999));
        Check.refused("the same", Check.STATE, desk, () -> desk.dividend(0, 5000));
        Check.due("one above", 0, desk.dividend(0, 5001));
        Check.due("10000", 50, desk.dividend(0, 10000));
        Check.refused("10000 again", Check.STATE, desk, () -> desk.dividend(0, 10000));
        desk.claim(0, 100);
        Check.refused("10000 again, though one lacks all", Check.STATE, desk, () -> desk.dividend(0, 10000));
    }

    private static void dividendBehindARank() {
        Check.sentence("dividend, IllegalState: .. a rank before it, with a claim that is not OUT, has not 10000");
        TrusteeDesk desk = Check.deskWith(1000);
        desk.claim(3, 100);
        desk.claim(5, 100);
        Check.due("a rank before those", 0, desk.dividend(2, 1));
        Check.refused("0", Check.STATE, desk, () -> desk.dividend(4, 1));
        desk.dividend(3, 9999);
        for (int rank = 4; rank < 8; rank++) {
            int behind = rank;
            Check.refused("9999", Check.STATE, desk, () -> desk.dividend(behind, 1));
        }
        desk.dividend(3, 10000);
        Check.due("10000, and a rank without claims", 1, desk.dividend(5, 100));
        Check.refused("rank 5 is before rank 6", Check.STATE, desk, () -> desk.dividend(6, 1));
        desk.claim(2, 100);
        desk.contest(2);
        Check.refused("CONTESTED", Check.STATE, desk, () -> desk.dividend(5, 200));
        desk.settle(2, 0);
        Check.due("OUT", 1, desk.dividend(5, 200));
        desk.claim(2, 1);
        desk.owes(3, 1);
        Check.refused("a net of 0 is not OUT", Check.STATE, desk, () -> desk.dividend(5, 300));
    }

    private static void dividendMoreThanTheCash() {
        Check.sentence("dividend, UnsupportedOperation: the cash has less");
        TrusteeDesk desk = Check.deskWith(99);
        desk.dividend(0, 10000);
        desk.claim(1, 100);
        Check.refused("a cent less", Check.UNSUPPORTED, desk, () -> desk.dividend(1, 10000));
        Check.due("it has no percentage of it", 0, desk.percentage(1));
        desk.claim(0, 9);
        Check.refused("with the rank before", Check.UNSUPPORTED, desk, () -> desk.dividend(1, 9100));
        Check.due("as much", 99, desk.dividend(1, 9000));
        Check.due("nothing of no cash", 0, desk.dividend(1, 9099));
        Check.refused("1 of no cash", Check.UNSUPPORTED, desk, () -> desk.dividend(1, 9100));
    }

    private static void greatestNotRefused() {
        Check.sentence("The greatest percentage that dividend() would not refuse");
        for (int cash = 0; cash <= 101; cash++) {
            TrusteeDesk desk = Check.deskWith(cash);
            desk.claim(1, 100);
            int best = Math.min(10000, cash * 100 + 99);
            Check.due("100 cents, cash " + cash, best, desk.greatest(1));
            if (best < 10000) {
                Check.refused("one above", Check.UNSUPPORTED, desk, () -> desk.dividend(1, best + 1));
            }
            Check.due("itself", Math.min(100, cash), desk.dividend(1, best));
        }
        TrusteeDesk most = Check.deskWith(400000000);
        for (int i = 0; i < 60; i++) {
            most.claim(0, 400000000);
        }
        Check.due("60 times the most", 166, most.greatest(0));
        Check.due("60 times 166", 398400000, most.dividend(0, 166));
    }

    private static void greatestIsItsOwn() {
        Check.sentence("the rank's own, if there is none above that");
        TrusteeDesk desk = Check.deskWith(100);
        desk.claim(0, 1000000);
        Check.due("one", 1, desk.greatest(0));
        desk.dividend(0, 1);
        Check.due("its own 1", 1, desk.greatest(0));
        TrusteeDesk poor = new TrusteeDesk();
        poor.claim(0, 1000000);
        Check.due("its own 0", 0, poor.greatest(0));
        TrusteeDesk rich = Check.deskWith(100);
        rich.claim(7, 100);
        rich.dividend(7, 10000);
        Check.due("its own 10000", 10000, rich.greatest(7));
        rich.dividend(2, 10000);
        rich.claim(2, 5);
        Check.due("its own 10000, where a rank before lacks some", 10000, rich.greatest(7));
    }

    private static void greatestInTheWay() {
        Check.sentence("NONE, if a rank before it stands in the way");
        TrusteeDesk desk = Check.deskWith(1000);
        desk.claim(3, 100);
        for (int rank = 0; rank < 8; rank++) {
            Check.due("rank 3 has 0", rank > 3 ? TrusteeDesk.NONE : 10000, desk.greatest(rank));
        }
        desk.dividend(3, 9999);
        Check.due("rank 3 has 9999", TrusteeDesk.NONE, desk.greatest(4));
        desk.dividend(3, 10000);
        Check.due("rank 3 has 10000", 10000, desk.greatest(4));
        desk.claim(0, 5);
        desk.contest(1);
        Check.due("a CONTESTED one of rank 0", TrusteeDesk.NONE, desk.greatest(7));
        desk.settle(1, 0);
        Check.due("an OUT one of rank 0", 10000, desk.greatest(7));
    }

    private static void greatestAtTheEnd() {
        Check.sentence("NONE, if .. all is at its end");
        TrusteeDesk desk = Check.deskWith(1000);
        desk.dividend(0, 10000);
        desk.dividend(1, 5);
        desk.end();
        for (int rank = 0; rank < 8; rank++) {
            Check.due("rank " + rank, TrusteeDesk.NONE, desk.greatest(rank));
        }
    }

    private static void greatestOfNoRank() {
        Check.sentence("greatest, IllegalArgument: there is no such rank");
        TrusteeDesk desk = new TrusteeDesk();
        for (int rank : Check.noNumbers(8)) {
            Check.refused("rank " + rank, Check.ARGUMENT, desk, () -> desk.greatest(rank));
        }
        desk.end();
        for (int rank : Check.noNumbers(8)) {
            Check.refused("behind end, rank " + rank, Check.ARGUMENT, desk, () -> desk.greatest(rank));
        }
    }

    private static void catchUpServesThatLack() {
        Check.sentence("All claims that lack something are served with that .. by ranks, then numbers: how many cents");
        TrusteeDesk desk = Check.deskWith(40);
        Check.due("nobody", 0, desk.catchUp());
        desk.dividend(7, 10000);
        desk.dividend(1, 5000);
        desk.claim(7, 10);
        desk.claim(1, 20);
        desk.claim(0, 30);
        desk.claim(1, 40);
        Check.due("to the cent, though rank 0 has 0", 40, desk.catchUp());
        Check.journal("by ranks, then numbers", desk, 1, 4, 1, 10, 4, 3, 20, 4, 0, 10);
        Check.due("nobody lacks anything", 0, desk.catchUp());
    }

    private static void catchUpWithWhatIsLeft() {
        Check.sentence("or with what the cash has left");
        for (int cash = 0; cash <= 31; cash++) {
            TrusteeDesk desk = Check.deskWith(cash);
            desk.dividend(2, 10000);
            for (int i = 0; i < 3; i++) {
                desk.claim(2, 10);
            }
            desk.contest(1);
            Check.due("cash " + cash, Math.min(30, cash), desk.catchUp());
            Check.due("the first", Math.min(10, cash), desk.told(0, 5));
            Check.due("the second", Math.min(10, Math.max(0, cash - 10)), desk.told(1, 6));
            Check.due("the third", Math.min(10, Math.max(0, cash - 20)), desk.told(2, 5));
            Check.due("the cash", Math.max(0, cash - 30), desk.sum(0));
        }
    }

    private static void catchUpBehindEnd() {
        Check.sentence("catchUp: .. IllegalState");
        TrusteeDesk desk = new TrusteeDesk();
        Check.due("nothing to do", 0, desk.catchUp());
        desk.end();
        Check.refused("behind end", Check.STATE, desk, desk::catchUp);
    }
}
