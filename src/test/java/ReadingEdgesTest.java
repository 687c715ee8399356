/** The edges that promises 14 to 18 name (told, percentage, sum, entries, entry): a method for each sentence. */
public final class ReadingEdgesTest {
    public static void main(String[] args) {
        toldOfAClaim();
        toldOfNothing();
        percentageOfARank();
        percentageOfNoRank();
        sumOfAll();
        sumOfNothing();
        entriesThereAre();
        entryOfEachKind();
        entryThatIsKept();
        entryOfNothing();
        Check.finish();
    }

    private static void toldOfAClaim() {
        Check.sentence("Of a claim: its rank (what = 0) .. whether it is open, 1 or 0 (9)");
        TrusteeDesk desk = Check.deskWith(1000);
        desk.asset();
        desk.asset();
        desk.claim(5, 1);
        desk.claim(7, 100);
        desk.owes(1, 11);
        desk.secure(1, 1, 22);
        desk.secure(2, 1, 1);
        desk.dividend(5, 10000);
        desk.dividend(7, 5000);
        desk.realise(1, 22);
        long[] open = {7, 0, 100, 11, 22, 0, 44, 67, 33, 1};
        long[] settled = {7, 0, 100, 11, 23, 33, 0, 66, 33, 0};
        for (int what = 0; what < 10; what++) {
            Check.due("open, what " + what, open[what], desk.told(1, what));
        }
        desk.realise(2, 9);
        for (int what = 0; what < 10; what++) {
            Check.due("settled, what " + what, settled[what], desk.told(1, what));
        }
    }

    private static void toldOfNothing() {
        Check.sentence("told, IllegalArgument: what is none of these");
        TrusteeDesk desk = new TrusteeDesk();
        desk.claim(0, 1);
        for (int what : Check.noNumbers(10)) {
            Check.refused("what " + what, Check.ARGUMENT, desk, () -> desk.told(0, what));
        }
        desk.end();
        Check.refused("behind end", Check.ARGUMENT, desk, () -> desk.told(0, 10));
    }

    private static void percentageOfARank() {
        Check.sentence("A rank's percentage");
        TrusteeDesk desk = new TrusteeDesk();
        for (int rank = 0; rank < 8; rank++) {
            Check.due("at first", 0, desk.percentage(rank));
            desk.dividend(rank, rank == 7 ? 10000 : rank + 1);
        }
        for (int rank = 0; rank < 8; rank++) {
            Check.due("rank " + rank, rank == 7 ? 10000 : rank + 1, desk.percentage(rank));
        }
    }

    private static void percentageOfNoRank() {
        Check.sentence("percentage, IllegalArgument: there is no such rank");
        TrusteeDesk desk = new TrusteeDesk();
        for (int rank : Check.noNumbers(8)) {
            Check.refused("rank " + rank, Check.ARGUMENT, desk, () -> desk.percentage(rank));
        }
    }

    private static void sumOfAll() {
        Check.sentence("The cash (what = 0), all that is reserved (1), all that was realised (2), spent (3),"
                + " got of assets (4), paid (5)");
        TrusteeDesk desk = new TrusteeDesk();
        Check.sums("empty", desk, 0, 0, 0, 0, 0, 0);
        for (int i = 0; i < 20; i++) {
            desk.asset();
        }
        for (int i = 0; i < 10; i++) {
            desk.claim(0, 400000000);
            desk.secure(i, i, 400000000);
        }
        for (int i = 0; i < 20; i++) {
            desk.realise(i, 400000000);
        }
        Check.sums("beyond int", desk, 4000000000L, 0, 8000000000L, 0, 4000000000L, 0);
        desk.cost(400000000);
        for (int i = 10; i < 19; i++) {
            desk.claim(1, 400000000);
        }
        desk.contest(10);
        desk.dividend(0, 10000);
        desk.dividend(1, 10000);
        Check.sums("all of it", desk, 0, 400000000, 8000000000L, 400000000, 4000000000L, 3200000000L);
        desk.settle(10, 1);
        Check.sums("released", desk, 399999999, 0, 8000000000L, 400000000, 4000000000L, 3200000001L);
    }

    private static void sumOfNothing() {
        Check.sentence("NONE for another what");
        TrusteeDesk desk = Check.deskWith(5);
        for (int what : Check.noNumbers(6)) {
            Check.due("what " + what, TrusteeDesk.NONE, desk.sum(what));
        }
        desk.end();
        Check.due("behind end", TrusteeDesk.NONE, desk.sum(6));
        Check.due("NONE", -1, TrusteeDesk.NONE);
    }

    private static void entriesThereAre() {
        Check.sentence("How many entries there are");
        TrusteeDesk desk = new TrusteeDesk();
        Check.due("none", 0, desk.entries());
        desk.asset();
        desk.realise(0, 1000);
        Check.due("one", 1, desk.entries());
        Check.refused("a refused call", Check.STATE, desk, () -> desk.cost(1001));
        desk.cost(0);
        Check.due("still one", 1, desk.entries());
        for (int i = 0; i < 200; i++) {
            desk.cost(1);
            Check.due("one more", 2 + i, desk.entries());
        }
        TrusteeDesk many = Check.deskWith(400000000);
        for (int i = 0; i < 60; i++) {
            many.claim(0, 10000);
        }
        for (int percentage = 1; percentage <= 60; percentage++) {
            many.dividend(0, percentage);
            Check.due("also those that are not kept", 1 + 60 * percentage, many.entries());
        }
    }

    private static void entryOfEachKind() {
        Check.sentence("its kind (what = 0), whose it is (1), how many cents (2)");
        TrusteeDesk desk = new TrusteeDesk();
        desk.asset();
        desk.asset();
        desk.claim(0, 10);
        desk.claim(0, 10);
        desk.secure(1, 1, 1);
        desk.realise(1, 400000000);
        desk.cost(400000000 - 101);
        desk.contest(0);
        desk.dividend(0, 5000);
        desk.settle(0, 8);
        desk.realise(0, 0);
        desk.end();
        Check.journal("each kind once, but for 8", desk, 0,
                1, 1, 400000000, 2, 1, 1, 3, -1, 399999899, 5, 0, 5, 4, 1, 4,
                6, 0, 4, 7, 0, 1, 8, 0, 4, 8, 1, 5);
    }

    private static void entryThatIsKept() {
        Check.sentence("Of an entry that is kept");
        TrusteeDesk desk = Check.deskWith(400000000);
        Check.due("the first", 400000000, desk.entry(0, 2));
        for (int entry : Check.noNumbers(1)) {
            Check.refused("entry " + entry, Check.INDEX, desk, () -> desk.entry(entry, 0));
        }
        for (int i = 0; i < 60; i++) {
            desk.claim(0, 10000);
        }
        for (int percentage = 1; percentage <= 51; percentage++) {
            desk.dividend(0, percentage);
        }
        for (int i = 1; i < 3000; i++) {
            Check.due("kind of " + i, 4, desk.entry(i, 0));
            Check.due("whose is " + i, (i - 1) % 60, desk.entry(i, 1));
            Check.due("cents of " + i, 1, desk.entry(i, 2));
        }
        for (int i = 3000; i < 3063; i++) {
            int entry = i;
            Check.refused("entry " + entry, Check.INDEX, desk, () -> desk.entry(entry, 0));
        }
    }

    private static void entryOfNothing() {
        Check.sentence("entry, IllegalArgument: what is none of these");
        TrusteeDesk desk = Check.deskWith(5);
        for (int what : Check.noNumbers(3)) {
            Check.refused("what " + what, Check.ARGUMENT, desk, () -> desk.entry(0, what));
        }
        desk.end();
        Check.refused("behind end", Check.ARGUMENT, desk, () -> desk.entry(0, 3));
    }
}
