/** Promise 13: end. */
public final class EndTest {
    public static void main(String[] args) {
        nothingAtAll();
        paysAllThatIsLeft();
        contestedAreOut();
        catchesUpFirst();
        sharesByRemainders();
        tiesGoToTheLeastNumber();
        onlyOneRankShares();
        greatSums();
        whereItMayNot();
        Check.finish();
    }

    private static void nothingAtAll() {
        TrusteeDesk desk = new TrusteeDesk();
        Check.due("no cash", 0, desk.end());
        Check.refused("twice", Check.STATE, desk, desk::end);
        Check.due("no entries", 0, desk.entries());
    }

    private static void paysAllThatIsLeft() {
        TrusteeDesk desk = Check.deskWith(1000);
        desk.claim(1, 100);
        desk.claim(0, 100);
        desk.claim(1, 100);
        desk.claim(0, 50);
        desk.owes(2, 30);
        desk.owes(3, 50);
        desk.dividend(0, 2500);
        Check.due("the cash then", 730, desk.end());
        Check.claim("paid", desk, 1, 0, 100, 0, 0, 100, 0, 100, 25, 0);
        Check.claim("net", desk, 2, 0, 100, 30, 0, 70, 0, 70, 0, 0);
        Check.journal("by ranks, by numbers", desk, 2, 8, 1, 75, 8, 0, 100, 8, 2, 70);
        Check.due("percentages stay", 2500, desk.percentage(0));
        Check.sums("paid", desk, 730, 0, 1000, 0, 0, 270);
    }

    private static void contestedAreOut() {
        TrusteeDesk desk = Check.deskWith(1000);
        desk.claim(0, 100);
        desk.claim(0, 100);
        desk.claim(0, 100);
        desk.claim(0, 100);
        desk.contest(1);
        desk.contest(3);
        desk.dividend(0, 5000);
        desk.claim(0, 7);
        desk.contest(4);
        Check.due("the cash then", 800, desk.end());
        Check.claim("OUT", desk, 1, 2, 100, 0, 0, 0, 0, 0, 0, 0);
        Check.claim("OUT", desk, 3, 2, 100, 0, 0, 0, 0, 0, 0, 0);
        Check.claim("OUT, nothing was reserved", desk, 4, 2, 7, 0, 0, 0, 0, 0, 0, 0);
        Check.journal("released by numbers", desk, 5, 7, 1, 50, 7, 3, 50, 8, 0, 50, 8, 2, 50);
    }

    private static void catchesUpFirst() {
        TrusteeDesk desk = Check.deskWith(100);
        desk.claim(1, 80);
        desk.dividend(1, 5000);
        desk.claim(1, 40);
        desk.claim(0, 100);
        Check.due("the cash then", 0, desk.end());
        Check.claim("caught up", desk, 1, 0, 40, 0, 0, 20, 0, 40, 20, 0);
        Check.claim("then rank 0 has what is left", desk, 2, 0, 100, 0, 0, 40, 0, 100, 0, 0);
        Check.journal("caught up", desk, 2, 4, 1, 20, 8, 2, 40);
    }

    private static void sharesByRemainders() {
        TrusteeDesk desk = Check.deskWith(10);
        desk.claim(0, 13);
        desk.claim(0, 17);
        desk.claim(0, 8);
        desk.claim(0, 29);
        // 10 shared by 13, 17, 8, 29 of 67: 1 63/67, 2 36/67, 1 13/67, 4 22/67, with 2 left over.
        Check.due("the cash then", 0, desk.end());
        Check.journal("one entry each, by numbers", desk, 1, 8, 0, 2, 8, 1, 3, 8, 2, 1, 8, 3, 4);
    }

    private static void tiesGoToTheLeastNumber() {
        TrusteeDesk desk = Check.deskWith(5);
        desk.claim(1, 3);
        desk.claim(0, 3);
        desk.claim(0, 3);
        desk.claim(0, 3);
        Check.due("the cash then", 0, desk.end());
        Check.journal("ties", desk, 1, 8, 1, 2, 8, 2, 2, 8, 3, 1);
        TrusteeDesk poor = Check.deskWith(2);
        for (int i = 0; i < 60; i++) {
            poor.claim(6, 9);
        }
        Check.due("two cents for sixty", 0, poor.end());
        Check.journal("no entry for nothing", poor, 1, 8, 0, 1, 8, 1, 1);
    }

    private static void onlyOneRankShares() {
        TrusteeDesk desk = Check.deskWith(110);
        desk.claim(2, 10);
        desk.claim(1, 20);
        desk.claim(0, 100);
        desk.claim(1, 20);
        Check.due("the cash then", 0, desk.end());
        Check.journal("rank 1 shares, rank 2 has nothing", desk, 1, 8, 2, 100, 8, 1, 5, 8, 3, 5);
        TrusteeDesk exact = Check.deskWith(40);
        exact.claim(1, 20);
        exact.claim(1, 20);
        exact.claim(2, 1);
        Check.due("as much as all of the rank", 0, exact.end());
        Check.sums("as much as all of the rank", exact, 0, 0, 40, 0, 0, 40);
        Check.due("nothing for the next", 0, exact.told(2, 5));
    }

    private static void greatSums() {
        TrusteeDesk desk = new TrusteeDesk();
        for (int i = 0; i < 20; i++) {
            desk.asset();
            desk.realise(i, 400000000);
        }
        for (int i = 0; i < 60; i++) {
            desk.claim(0, 400000000 - i);
        }
        Check.due("the cash then", 0, desk.end());
        long allRests = 60L * 400000000 - 59 * 30;
        Check.due("all is paid", 8000000000L, desk.sum(5));
        for (int i = 0; i < 60; i++) {
            java.math.BigInteger exact = java.math.BigInteger.valueOf(400000000 - i)
                    .multiply(java.math.BigInteger.valueOf(8000000000L))
                    .divide(java.math.BigInteger.valueOf(allRests));
            long above = desk.told(i, 5) - exact.longValue();
            Check.due("a share, or one cent more", 1, above == 0 || above == 1 ? 1 : 0);
        }
    }

    private static void whereItMayNot() {
        TrusteeDesk desk = Check.deskWith(100);
        desk.claim(0, 50);
        desk.contest(0);
        desk.dividend(0, 5000);
        desk.asset();
        Check.refused("an asset is not realised", Check.STATE, desk, desk::end);
        desk.realise(1, 0);
        Check.due("the cash then", 100, desk.end());
        Check.refused("twice", Check.STATE, desk, desk::end);
    }
}
