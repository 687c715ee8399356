/** Promises 14 to 18: told, percentage, sum, entries, entry. */
public final class ReadingTest {
    public static void main(String[] args) {
        told();
        percentage();
        sum();
        entries();
        moreEntriesThanAreKept();
        behindEnd();
        Check.finish();
    }

    private static void told() {
        TrusteeDesk desk = Check.deskWith(1000);
        desk.asset();
        desk.asset();
        desk.claim(0, 1);
        desk.claim(6, 500);
        desk.owes(1, 70);
        desk.secure(1, 1, 30);
        desk.secure(2, 1, 11);
        desk.dividend(0, 10000);
        desk.dividend(6, 1000);
        desk.realise(1, 30);
        Check.due("rank", 6, desk.told(1, 0));
        Check.claim("all of a claim", desk, 1, 0, 500, 70, 30, 0, 43, 400, 40, 1);
        desk.realise(2, 0);
        Check.claim("all of a claim", desk, 1, 0, 500, 70, 30, 40, 0, 400, 40, 0);
        Check.refused("what 10", Check.ARGUMENT, desk, () -> desk.told(1, 10));
        Check.refused("what -1", Check.ARGUMENT, desk, () -> desk.told(1, -1));
        Check.refused("claim 2", Check.INDEX, desk, () -> desk.told(2, 10));
        Check.refused("claim -1", Check.INDEX, desk, () -> desk.told(-1, 0));
    }

    private static void percentage() {
        TrusteeDesk desk = new TrusteeDesk();
        desk.dividend(7, 1);
        desk.dividend(0, 10000);
        Check.due("rank 7", 1, desk.percentage(7));
        Check.due("rank 0", 10000, desk.percentage(0));
        Check.due("rank 1", 0, desk.percentage(1));
        Check.refused("rank 8", Check.ARGUMENT, desk, () -> desk.percentage(8));
        Check.refused("rank -1", Check.ARGUMENT, desk, () -> desk.percentage(-1));
    }

    private static void sum() {
        TrusteeDesk desk = Check.deskWith(1000);
        desk.asset();
        desk.claim(0, 100);
        desk.claim(0, 200);
        desk.claim(0, 300);
        desk.secure(1, 0, 60);
        desk.contest(1);
        desk.realise(1, 61);
        desk.cost(9);
        desk.dividend(0, 5000);
        Check.sums("all sums", desk, 722, 100, 1061, 9, 60, 170);
        Check.due("what 6", TrusteeDesk.NONE, desk.sum(6));
        Check.due("what -1", TrusteeDesk.NONE, desk.sum(-1));
        Check.due("greatest what", TrusteeDesk.NONE, desk.sum(Integer.MAX_VALUE));
        Check.due("NONE", -1, TrusteeDesk.NONE);
    }

    private static void entries() {
        TrusteeDesk desk = Check.deskWith(0);
        desk.cost(0);
        Check.due("0 cents have no entry", 0, desk.entries());
        Check.refused("entry 0", Check.INDEX, desk, () -> desk.entry(0, 0));
        desk.asset();
        desk.realise(1, 10);
        desk.cost(3);
        Check.journal("entries", desk, 0, 1, 1, 10, 3, -1, 3);
        Check.refused("entry 2", Check.INDEX, desk, () -> desk.entry(2, 0));
        Check.refused("entry 2, what 3", Check.INDEX, desk, () -> desk.entry(2, 3));
        Check.refused("entry -1", Check.INDEX, desk, () -> desk.entry(-1, 0));
        Check.refused("what 3", Check.ARGUMENT, desk, () -> desk.entry(0, 3));
        Check.refused("what -1", Check.ARGUMENT, desk, () -> desk.entry(0, -1));
    }

    private static void moreEntriesThanAreKept() {
        TrusteeDesk desk = Check.deskWith(400000000);
        for (int i = 0; i < 60; i++) {
            desk.claim(0, 10000 + i);
        }
        for (int percentage = 1; percentage <= 49; percentage++) {
            Check.due("a cent each", 60, desk.dividend(0, percentage));
        }
        Check.due("entries", 2941, desk.entries());
        for (int percentage = 50; percentage <= 60; percentage++) {
            Check.due("a cent each", 60, desk.dividend(0, percentage));
        }
        Check.due("all entries are counted", 3601, desk.entries());
        Check.due("the last that is kept, kind", 4, desk.entry(2999, 0));
        Check.due("the last that is kept, whose", 58, desk.entry(2999, 1));
        Check.due("the last that is kept, cents", 1, desk.entry(2999, 2));
        Check.refused("the first that is not kept", Check.INDEX, desk, () -> desk.entry(3000, 0));
        Check.refused("one that is not kept", Check.INDEX, desk, () -> desk.entry(3600, 3));
        Check.due("cents still move", 3600, desk.sum(5));
    }

    private static void behindEnd() {
        TrusteeDesk desk = Check.deskWith(10);
        desk.claim(3, 4);
        desk.end();
        Check.claim("told", desk, 0, 0, 4, 0, 0, 4, 0, 4, 0, 0);
        Check.due("percentage", 0, desk.percentage(3));
        Check.sums("sum", desk, 6, 0, 10, 0, 0, 4);
        Check.journal("entries", desk, 0, 1, 0, 10, 8, 0, 4);
    }
}
