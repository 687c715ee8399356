/** Promises 9 to 12: cost, dividend, greatest, catchUp. */
public final class CashTest {
    public static void main(String[] args) {
        cost();
        dividendByRanksThenNumbers();
        dividendServesRanksBefore();
        dividendWhereItMayNot();
        dividendOrderOfExceptions();
        ranksInTheWay();
        greatest();
        greatestCountsRanksBefore();
        greatestAgainstEveryPercentage();
        catchUp();
        catchUpByRanks();
        Check.finish();
    }

    private static void cost() {
        TrusteeDesk desk = Check.deskWith(100);
        Check.due("cost", 70, desk.cost(30));
        Check.due("cost of 0", 70, desk.cost(0));
        Check.refused("more than there is", Check.STATE, desk, () -> desk.cost(71));
        Check.refused("-1", Check.ARGUMENT, desk, () -> desk.cost(-1));
        Check.refused("too many", Check.ARGUMENT, desk, () -> desk.cost(400000001));
        Check.refused("cents before cash", Check.STATE, desk, () -> desk.cost(400000000));
        Check.due("all", 0, desk.cost(70));
        Check.sums("spent", desk, 0, 0, 100, 100, 0, 0);
        Check.journal("spent", desk, 1, 3, -1, 30, 3, -1, 70);
        desk.end();
        Check.refused("behind end", Check.STATE, desk, () -> desk.cost(0));
        Check.refused("wrong, behind end", Check.ARGUMENT, desk, () -> desk.cost(-1));
    }

    private static void dividendByRanksThenNumbers() {
        TrusteeDesk desk = Check.deskWith(1000);
        desk.asset();
        desk.claim(2, 100);
        desk.claim(1, 33);
        desk.claim(2, 55);
        desk.claim(1, 44);
        desk.secure(1, 2, 5);
        Check.due("rank 1", 77, desk.dividend(1, 10000));
        Check.due("percentage", 10000, desk.percentage(1));
        Check.due("rank 2", 51, desk.dividend(2, 3333));
        Check.due("percentage", 3333, desk.percentage(2));
        Check.due("rank 2 again", 1, desk.dividend(2, 3400));
        Check.due("rank 2 again, nothing", 0, desk.dividend(2, 3401));
        Check.due("percentage", 3401, desk.percentage(2));
        Check.journal("by ranks, then numbers", desk, 1,
                4, 1, 33, 4, 3, 44, 4, 0, 33, 5, 2, 18, 4, 0, 1);
        Check.sums("served", desk, 871, 18, 1000, 0, 0, 111);
    }

    private static void dividendServesRanksBefore() {
        TrusteeDesk desk = Check.deskWith(100);
        desk.claim(0, 10);
        desk.dividend(0, 10000);
        desk.claim(1, 100);
        desk.claim(0, 20);
        desk.claim(3, 5);
        Check.refused("the rank before counts too", Check.UNSUPPORTED, desk, () -> desk.dividend(1, 7100));
        Check.due("with the rank before", 90, desk.dividend(1, 7000));
        Check.journal("the rank before comes first", desk, 2, 4, 2, 20, 4, 1, 70);
    }

    private static void dividendWhereItMayNot() {
        TrusteeDesk desk = Check.deskWith(100);
        desk.claim(0, 100);
        Check.refused("rank 8", Check.ARGUMENT, desk, () -> desk.dividend(8, 1));
        Check.refused("rank -1", Check.ARGUMENT, desk, () -> desk.dividend(-1, 1));
        Check.refused("percentage 0", Check.ARGUMENT, desk, () -> desk.dividend(0, 0));
        Check.refused("percentage -1", Check.ARGUMENT, desk, () -> desk.dividend(0, -1));
        Check.refused("percentage 10001", Check.ARGUMENT, desk, () -> desk.dividend(0, 10001));
        Check.due("a percentage", 50, desk.dividend(0, 5000));
        Check.refused("the same", Check.STATE, desk, () -> desk.dividend(0, 5000));
        Check.refused("a smaller one", Check.STATE, desk, () -> desk.dividend(0, 1));
        desk.cost(1);
        Check.refused("a cent is missing", Check.UNSUPPORTED, desk, () -> desk.dividend(0, 10000));
        Check.due("to the cent", 49, desk.dividend(0, 9900));
        Check.due("no cash", 0, desk.sum(0));
        Check.due("nothing is lacked, so no cash is needed", 0, desk.dividend(0, 9999));
        desk.end();
        Check.refused("behind end", Check.STATE, desk, () -> desk.dividend(0, 10000));
        Check.refused("wrong, behind end", Check.ARGUMENT, desk, () -> desk.dividend(0, 10001));
    }

    private static void dividendOrderOfExceptions() {
        TrusteeDesk desk = new TrusteeDesk();
        desk.claim(0, 100);
        desk.claim(1, 100);
        Check.refused("state before cash", Check.STATE, desk, () -> desk.dividend(1, 10000));
        Check.refused("cash", Check.UNSUPPORTED, desk, () -> desk.dividend(0, 10000));
        Check.due("a due below a cent needs nothing", 0, desk.dividend(0, 99));
    }

    private static void ranksInTheWay() {
        TrusteeDesk desk = Check.deskWith(1000);
        Check.due("an empty rank is not in the way", 0, desk.dividend(3, 10000));
        desk.claim(1, 100);
        desk.claim(2, 100);
        Check.refused("rank 1 has 0", Check.STATE, desk, () -> desk.dividend(2, 1));
        desk.dividend(1, 9999);
        Check.refused("rank 1 has 9999", Check.STATE, desk, () -> desk.dividend(2, 1));
        Check.due("in the way, though its own is 10000", TrusteeDesk.NONE, desk.greatest(3));
        desk.dividend(1, 10000);
        Check.due("rank 1 has 10000", 1, desk.dividend(2, 100));
        desk.claim(0, 100);
        Check.refused("a late claim stands in the way", Check.STATE, desk, () -> desk.dividend(2, 200));
        desk.contest(2);
        Check.refused("contested stands in the way", Check.STATE, desk, () -> desk.dividend(2, 200));
        desk.settle(2, 0);
        Check.due("OUT does not", 1, desk.dividend(2, 200));
    }

    private static void greatest() {
        TrusteeDesk desk = Check.deskWith(100);
        Check.due("without claims", 10000, desk.greatest(7));
        desk.claim(2, 300);
        Check.due("above a third", 3366, desk.greatest(2));
        Check.refused("one more", Check.UNSUPPORTED, desk, () -> desk.dividend(2, 3367));
        Check.due("rank before", 10000, desk.greatest(1));
        Check.due("in the way", TrusteeDesk.NONE, desk.greatest(3));
        desk.dividend(2, 3366);
        Check.due("its own", 3366, desk.greatest(2));
        Check.refused("rank 8", Check.ARGUMENT, desk, () -> desk.greatest(8));
        Check.refused("rank -1", Check.ARGUMENT, desk, () -> desk.greatest(-1));
        TrusteeDesk rich = Check.deskWith(300);
        rich.claim(2, 300);
        rich.dividend(2, 10000);
        Check.due("its own 10000", 10000, rich.greatest(2));
        rich.end();
        for (int rank = 0; rank < 8; rank++) {
            Check.due("behind end", TrusteeDesk.NONE, rich.greatest(rank));
        }
        Check.refused("rank 8 behind end", Check.ARGUMENT, rich, () -> rich.greatest(8));
    }

    private static void greatestCountsRanksBefore() {
        TrusteeDesk desk = Check.deskWith(100);
        desk.claim(0, 10);
        desk.dividend(0, 10000);
        desk.claim(1, 100);
        desk.dividend(1, 1000);
        desk.claim(0, 50);
        Check.due("a late claim before it", 4099, desk.greatest(1));
        desk.claim(0, 31);
        Check.due("the ranks before lack more than there is", 1000, desk.greatest(1));
    }

    private static void greatestAgainstEveryPercentage() {
        for (int cash = 0; cash <= 130; cash += 13) {
            int best = 0;
            for (int percentage = 1; percentage <= 10000; percentage++) {
                long need = 97L * percentage / 10000 + 31L * percentage / 10000;
                best = need <= cash ? percentage : best;
            }
            TrusteeDesk desk = Check.deskWith(cash);
            desk.claim(4, 97);
            desk.claim(4, 31);
            Check.due("cash " + cash, best, desk.greatest(4));
        }
    }

    private static void catchUp() {
        TrusteeDesk desk = Check.deskWith(100);
        desk.claim(0, 100);
        desk.dividend(0, 5000);
        Check.due("nothing is lacked", 0, desk.catchUp());
        desk.claim(0, 60);
        desk.claim(0, 60);
        desk.contest(2);
        Check.due("late claims", 50, desk.catchUp());
        Check.claim("paid", desk, 1, 0, 60, 0, 0, 30, 0, 60, 30, 0);
        Check.claim("reserved with what the cash had", desk, 2, 1, 60, 0, 0, 0, 20, 60, 30, 1);
        Check.due("no cash", 0, desk.catchUp());
        desk.asset();
        desk.realise(1, 50);
        Check.due("the rest of it", 10, desk.catchUp());
        Check.journal("served", desk, 2, 4, 1, 30, 5, 2, 20, 1, 1, 50, 5, 2, 10);
        desk.end();
        Check.refused("behind end", Check.STATE, desk, desk::catchUp);
    }

    private static void catchUpByRanks() {
        TrusteeDesk desk = Check.deskWith(100);
        for (int rank = 0; rank < 8; rank++) {
            desk.dividend(rank, 10000);
        }
        desk.claim(7, 30);
        desk.claim(3, 30);
        desk.claim(0, 30);
        desk.claim(3, 30);
        Check.due("by ranks", 100, desk.catchUp());
        Check.journal("by ranks, then numbers", desk, 1, 4, 2, 30, 4, 1, 30, 4, 3, 30, 4, 0, 10);
    }
}
