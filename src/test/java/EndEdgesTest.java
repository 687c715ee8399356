/** The edges that promise 13 names (end): a method for each sentence. */
public final class EndEdgesTest {
    public static void main(String[] args) {
        contestedAreOut();
        thenCatchUp();
        ranksWithAsMuch();
        ranksWithLess();
        sharesAreDownward();
        leftOverCents();
        ofSeveralTheLeastNumber();
        theCashThen();
        assetNotRealised();
        endTwice();
        Check.finish();
    }

    private static void contestedAreOut() {
        Check.sentence("CONTESTED claims are OUT, what is reserved for them is released, by numbers");
        TrusteeDesk desk = Check.deskWith(12);
        desk.dividend(0, 10000);
        desk.dividend(1, 10000);
        desk.claim(1, 5);
        desk.claim(0, 5);
        desk.claim(0, 5);
        for (int i = 0; i < 3; i++) {
            desk.contest(i);
        }
        desk.catchUp();
        Check.sums("all is reserved", desk, 0, 12, 12, 0, 0, 0);
        Check.due("all is cash", 12, desk.end());
        Check.journal("by numbers, not by ranks", desk, 4, 7, 0, 2, 7, 1, 5, 7, 2, 5);
        for (int i = 0; i < 3; i++) {
            Check.claim("OUT", desk, i, 2, 5, 0, 0, 0, 0, 0, 0, 0);
        }
        TrusteeDesk unserved = Check.deskWith(0);
        unserved.claim(0, 5);
        unserved.contest(0);
        unserved.end();
        Check.due("OUT without anything reserved", 2, unserved.told(0, 1));
        Check.due("nothing is released", 0, unserved.entries());
    }

    private static void thenCatchUp() {
        Check.sentence("then catchUp()");
        TrusteeDesk desk = Check.deskWith(10);
        desk.claim(1, 100);
        desk.contest(0);
        desk.dividend(1, 1000);
        desk.claim(1, 90);
        desk.claim(0, 100);
        Check.due("with what was released", 0, desk.end());
        Check.journal("rank 1 lacks 9, and rank 0 has only the cent that is left", desk, 2,
                7, 0, 10, 4, 1, 9, 8, 2, 1);
    }

    private static void ranksWithAsMuch() {
        Check.sentence("then by ranks all that is left of nets is paid, by numbers, if the cash has as much"
                + " as all of a rank");
        TrusteeDesk desk = Check.deskWith(40);
        desk.claim(1, 7);
        desk.claim(0, 10);
        desk.claim(1, 9);
        desk.claim(0, 10);
        desk.owes(2, 2);
        desk.dividend(0, 5000);
        Check.due("as much as all of both ranks, and 6 more", 6, desk.end());
        Check.journal("by ranks, by numbers", desk, 3, 8, 1, 5, 8, 3, 5, 8, 0, 7, 8, 2, 7);
        Check.claim("with what it was paid before", desk, 1, 0, 10, 0, 0, 10, 0, 10, 5, 0);
        TrusteeDesk exact = Check.deskWith(34);
        exact.claim(1, 7);
        exact.claim(0, 20);
        exact.claim(1, 7);
        Check.due("as much to the cent", 0, exact.end());
        Check.journal("as much to the cent", exact, 1, 8, 1, 20, 8, 0, 7, 8, 2, 7);
    }

    private static void ranksWithLess() {
        Check.sentence("else that rank's claims share the cash by what is left of their nets");
        TrusteeDesk desk = Check.deskWith(33);
        desk.claim(1, 7);
        desk.claim(0, 20);
        desk.claim(1, 7);
        desk.claim(2, 7);
        Check.due("a cent less than all of rank 1", 0, desk.end());
        Check.journal("7 and 6, none for rank 2", desk, 1, 8, 1, 20, 8, 0, 7, 8, 2, 6);
        TrusteeDesk left = Check.deskWith(60);
        left.claim(0, 50);
        left.dividend(0, 9000);
        left.owes(left.claim(0, 90), 75);
        left.claim(1, 100);
        // The first was paid 45; the cash has 15: 13 for the second by catchUp, then 2 for what is left, 5 and 2.
        Check.due("what is left of nets counts, not the nets", 0, left.end());
        Check.journal("2 shared by 5 and 2 of 7: 1 3/7 and 4/7", left, 2, 4, 1, 13, 8, 0, 1, 8, 1, 1);
    }

    private static void sharesAreDownward() {
        Check.sentence("share the cash by what is left of their nets, downward");
        TrusteeDesk desk = Check.deskWith(10);
        desk.claim(0, 9);
        desk.claim(0, 1);
        desk.claim(0, 10);
        // 10 of 20: 4 1/2, 1/2, 5: one cent is left over, and a tie.
        Check.due("the cash then", 0, desk.end());
        Check.journal("downward, but for the cent", desk, 1, 8, 0, 5, 8, 2, 5);
        TrusteeDesk even = Check.deskWith(10);
        even.claim(0, 8);
        even.claim(0, 12);
        Check.due("the cash then", 0, even.end());
        Check.journal("without remainders", even, 1, 8, 0, 4, 8, 1, 6);
        TrusteeDesk none = Check.deskWith(0);
        none.claim(0, 8);
        Check.due("0 to share", 0, none.end());
        Check.due("no entry", 0, none.entries());
        TrusteeDesk one = Check.deskWith(399999999);
        one.claim(0, 400000000);
        Check.due("one claim alone has it all", 0, one.end());
        Check.due("one claim alone has it all", 399999999, one.told(0, 5));
    }

    private static void leftOverCents() {
        Check.sentence("the cents that are left over go, one each, to those with the greatest remainders");
        TrusteeDesk desk = Check.deskWith(7);
        desk.claim(0, 1);
        desk.claim(0, 2);
        desk.claim(0, 4);
        desk.claim(0, 3);
        // 7 of 10: 7/10, 1 4/10, 2 8/10, 2 1/10: two cents are left over, for claims 2 and 0.
        Check.due("the cash then", 0, desk.end());
        Check.journal("claims 2 and 0", desk, 1, 8, 0, 1, 8, 1, 1, 8, 2, 3, 8, 3, 2);
        TrusteeDesk many = Check.deskWith(59);
        for (int i = 0; i < 60; i++) {
            many.claim(5, 400000000);
        }
        Check.due("59 left over for 60", 0, many.end());
        Check.due("one each", 1, many.told(58, 5));
        Check.due("none for the last", 0, many.told(59, 5));
        Check.due("an entry each", 60, many.entries());
    }

    private static void ofSeveralTheLeastNumber() {
        Check.sentence("of several the least number");
        TrusteeDesk desk = Check.deskWith(7);
        desk.claim(1, 5);
        for (int i = 0; i < 4; i++) {
            desk.claim(0, 5);
        }
        // 7 of 20, four times 1 3/4: three cents are left over.
        Check.due("the cash then", 0, desk.end());
        Check.journal("the least three", desk, 1, 8, 1, 2, 8, 2, 2, 8, 3, 2, 8, 4, 1);
    }

    private static void theCashThen() {
        Check.sentence("The cash then");
        Check.due("nothing at all", 0, new TrusteeDesk().end());
        Check.due("without claims", 400000000, Check.deskWith(400000000).end());
        TrusteeDesk most = new TrusteeDesk();
        for (int i = 0; i < 20; i++) {
            most.asset();
            most.realise(i, 400000000);
        }
        most.claim(7, 1);
        Check.due("the most there is, but a cent", 7999999999L, most.end());
    }

    private static void assetNotRealised() {
        Check.sentence("end, IllegalState: an asset is not realised");
        for (int open = 0; open < 20; open++) {
            TrusteeDesk desk = new TrusteeDesk();
            for (int i = 0; i < 20; i++) {
                desk.asset();
                if (i != open) {
                    desk.realise(i, 1);
                }
            }
            desk.claim(0, 30);
            desk.contest(0);
            Check.refused("asset " + open, Check.STATE, desk, desk::end);
            desk.settle(0, 30);
            desk.realise(open, 0);
            Check.due("all are realised", 0, desk.end());
            Check.due("the claim was not OUT", 19, desk.told(0, 5));
        }
    }

    private static void endTwice() {
        Check.sentence("end, behind end()");
        TrusteeDesk desk = Check.deskWith(5);
        desk.end();
        Check.refused("again", Check.STATE, desk, desk::end);
        Check.due("the cash stays", 5, desk.sum(0));
    }
}
