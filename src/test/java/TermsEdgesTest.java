/** The edges that the sections "What it is" and "Terms" name: a method for each sentence. */
public final class TermsEdgesTest {
    public static void main(String[] args) {
        atMost512Calls();
        centsAtTheirEnds();
        centsThatAreNone();
        sixtyClaims();
        ranksZeroToSeven();
        netNotBelowZero();
        netOfOut();
        twentyAssets();
        fourSecurities();
        realisedOnce();
        open();
        fresh();
        percentagesAtTheirEnds();
        dueIsDownward();
        lacksNotBelowZero();
        served();
        settlesOnlyWithSomethingReserved();
        settlesForNothing();
        settlesForAllOfItAtMost();
        journalWithoutZeroCents();
        journalKeepsTheFirst3000();
        Check.finish();
    }

    private static void atMost512Calls() {
        Check.sentence("An object is used for at most 512 calls after it has been made");
        TrusteeDesk desk = new TrusteeDesk();
        for (int i = 0; i < 60; i++) {
            desk.claim(0, 400000000);
        }
        for (int i = 0; i < 20; i++) {
            desk.asset();
            for (int k = 0; k < 4; k++) {
                desk.secure(i, (3 * i + k) % 60, 1);
            }
        }
        for (int i = 0; i < 20; i++) {
            desk.realise(i, 400000000);
        }
        for (int percentage = 1; percentage <= 329; percentage++) {
            desk.dividend(0, percentage);
        }
        Check.due("the 510th call", 60 * 13159999L, desk.sum(5));
        Check.due("the 511th call", 20 + 80 + 329 * 60, desk.entries());
        Check.due("the 512th call", 0, desk.end());
    }

    private static void centsAtTheirEnds() {
        Check.sentence("CENTS are 0 .. 400000000 in arguments: the first and the last of them");
        TrusteeDesk desk = new TrusteeDesk();
        for (int i = 0; i < 3; i++) {
            desk.asset();
        }
        Check.due("claim(0, 1)", 0, desk.claim(0, 1));
        Check.due("claim(0, 400000000)", 1, desk.claim(0, 400000000));
        Check.due("owes(1, 0)", 0, desk.owes(1, 0));
        Check.due("owes(0, 400000000)", 400000000, desk.owes(0, 400000000));
        Check.due("secure(2, 0, 1)", 1, desk.secure(2, 0, 1));
        Check.due("secure(2, 1, 400000000)", 2, desk.secure(2, 1, 400000000));
        Check.due("realise(0, 0)", 0, desk.realise(0, 0));
        Check.due("realise(1, 400000000)", 400000000, desk.realise(1, 400000000));
        Check.due("realise(2, 400000000)", 0, desk.realise(2, 400000000));
        Check.due("cost(0)", 400000000, desk.cost(0));
        Check.due("cost(400000000)", 0, desk.cost(400000000));
        Check.due("claim 2", 2, desk.claim(0, 400000000));
        desk.contest(2);
        Check.due("settle(2, 400000000)", 0, desk.settle(2, 400000000));
        Check.due("its amount", 400000000, desk.told(2, 2));
        desk.contest(2);
        Check.due("settle(2, 0)", 0, desk.settle(2, 0));
        Check.due("its state", 2, desk.told(2, 1));
    }

    private static void centsThatAreNone() {
        Check.sentence("CENTS are 0 .. 400000000 in arguments: what is below or above");
        TrusteeDesk desk = Check.deskWith(400000000);
        desk.asset();
        desk.claim(0, 400000000);
        desk.claim(0, 400000000);
        desk.contest(1);
        for (long cents : Check.NO_CENTS) {
            Check.refused("claim " + cents, Check.ARGUMENT, desk, () -> desk.claim(0, cents));
            Check.refused("owes " + cents, Check.ARGUMENT, desk, () -> desk.owes(0, cents));
            Check.refused("secure " + cents, Check.ARGUMENT, desk, () -> desk.secure(1, 0, cents));
            Check.refused("realise " + cents, Check.ARGUMENT, desk, () -> desk.realise(1, cents));
            Check.refused("settle " + cents, Check.ARGUMENT, desk, () -> desk.settle(1, cents));
            Check.refused("cost " + cents, Check.ARGUMENT, desk, () -> desk.cost(cents));
        }
    }

    private static void sixtyClaims() {
        Check.sentence("CLAIMS are 0, 1, .., 60 at most");
        TrusteeDesk desk = Check.deskWith(60);
        for (int i = 0; i < 60; i++) {
            Check.due("its number", i, desk.claim(0, 1));
        }
        Check.refused("the 61st", Check.UNSUPPORTED, desk, () -> desk.claim(0, 1));
        Check.due("all 60 are served", 60, desk.dividend(0, 10000));
        Check.due("the last one too", 1, desk.told(59, 5));
        Check.refused("there is no claim 60", Check.INDEX, desk, () -> desk.told(60, 0));
    }

    private static void ranksZeroToSeven() {
        Check.sentence("each with a RANK, 0 .. 7 (0 is paid first)");
        TrusteeDesk desk = Check.deskWith(36);
        for (int rank = 0; rank < 8; rank++) {
            desk.dividend(rank, 10000);
        }
        for (int rank = 7; rank >= 0; rank--) {
            Check.due("its number", 7 - rank, desk.claim(rank, rank + 1));
            Check.due("its rank", rank, desk.told(7 - rank, 0));
        }
        Check.due("all are served", 36, desk.catchUp());
        Check.journal("0 is paid first, 7 last", desk, 1,
                4, 7, 1, 4, 6, 2, 4, 5, 3, 4, 4, 4, 4, 3, 5, 4, 2, 6, 4, 1, 7, 4, 0, 8);
    }

    private static void netNotBelowZero() {
        Check.sentence("Its NET is the amount less debt and what it got, 0 if that is below 0");
        TrusteeDesk desk = Check.deskWith(1000);
        desk.asset();
        desk.claim(0, 100);
        desk.owes(0, 99);
        Check.due("1 is left", 1, desk.told(0, 7));
        desk.owes(0, 1);
        Check.due("0 is left", 0, desk.told(0, 7));
        desk.owes(0, 1);
        Check.due("below 0", 0, desk.told(0, 7));
        desk.claim(0, 100);
        desk.secure(1, 1, 60);
        desk.realise(1, 60);
        Check.due("less what it got", 40, desk.told(1, 7));
        desk.owes(1, 40);
        Check.due("debt and what it got are as much", 0, desk.told(1, 7));
        desk.owes(1, 1);
        Check.due("debt and what it got are more", 0, desk.told(1, 7));
        desk.claim(0, 100);
        for (int i = 1; i <= 6; i++) {
            desk.owes(2, 400000000);
            Check.due("a debt of " + i + " times the most", 0, desk.told(2, 7));
        }
        Check.due("nothing is due", 0, desk.dividend(0, 10000));
        Check.due("nothing is left to pay", 1000, desk.end());
    }

    private static void netOfOut() {
        Check.sentence("Its NET is .. 0 if .. it is OUT");
        TrusteeDesk desk = Check.deskWith(1000);
        desk.claim(0, 100);
        desk.contest(0);
        Check.due("CONTESTED", 100, desk.told(0, 7));
        desk.settle(0, 0);
        Check.due("OUT", 0, desk.told(0, 7));
        Check.due("nothing is due", 0, desk.dividend(0, 10000));
        Check.due("nothing is left to pay", 1000, desk.end());
    }

    private static void twentyAssets() {
        Check.sentence("ASSETS are 0, 1, .., 20 at most");
        TrusteeDesk desk = new TrusteeDesk();
        for (int i = 0; i < 20; i++) {
            Check.due("its number", i, desk.asset());
        }
        Check.refused("the 21st", Check.UNSUPPORTED, desk, desk::asset);
        Check.due("the last one", 7, desk.realise(19, 7));
        Check.refused("realised ones count", Check.UNSUPPORTED, desk, desk::asset);
        Check.refused("there is no asset 20", Check.INDEX, desk, () -> desk.realise(20, 7));
    }

    private static void fourSecurities() {
        Check.sentence("each with SECURITIES in order, 4 at most: claims, each with a limit");
        TrusteeDesk desk = new TrusteeDesk();
        desk.asset();
        desk.asset();
        for (int i = 0; i < 5; i++) {
            desk.claim(0, 10);
        }
        for (int i = 4; i > 0; i--) {
            Check.due("how many", 5 - i, desk.secure(1, i, i));
        }
        Check.refused("the fifth", Check.UNSUPPORTED, desk, () -> desk.secure(1, 0, 1));
        Check.due("those of another asset do not count", 1, desk.secure(0, 0, 1));
        desk.realise(1, 100);
        Check.journal("in their order", desk, 0, 1, 1, 100, 2, 4, 4, 2, 3, 3, 2, 2, 2, 2, 1, 1);
    }

    private static void realisedOnce() {
        Check.sentence("it is REALISED once");
        TrusteeDesk desk = new TrusteeDesk();
        desk.asset();
        desk.asset();
        desk.realise(0, 0);
        Check.refused("again, though it was for 0 cents", Check.STATE, desk, () -> desk.realise(0, 5));
        desk.realise(1, 5);
        Check.refused("again", Check.STATE, desk, () -> desk.realise(1, 5));
    }

    private static void open() {
        Check.sentence("A claim is OPEN, if it is CONTESTED, or has security in an asset that is not realised,"
                + " and is not OUT");
        TrusteeDesk desk = new TrusteeDesk();
        desk.asset();
        desk.asset();
        desk.claim(0, 10);
        desk.claim(0, 10);
        Check.due("a new one", 0, desk.told(0, 9));
        desk.contest(0);
        Check.due("CONTESTED", 1, desk.told(0, 9));
        desk.settle(0, 9);
        Check.due("ADMITTED again", 0, desk.told(0, 9));
        desk.secure(0, 0, 1);
        desk.secure(1, 0, 1);
        Check.due("two securities", 1, desk.told(0, 9));
        desk.realise(0, 1);
        Check.due("one is left", 1, desk.told(0, 9));
        desk.contest(0);
        Check.due("one, and CONTESTED", 1, desk.told(0, 9));
        desk.settle(0, 8);
        Check.due("one, ADMITTED again", 1, desk.told(0, 9));
        desk.realise(1, 1);
        Check.due("none is left", 0, desk.told(0, 9));
        desk.asset();
        desk.secure(2, 1, 1);
        desk.contest(1);
        desk.settle(1, 0);
        Check.due("OUT with a security", 0, desk.told(1, 9));
    }

    private static void fresh() {
        Check.sentence("It is FRESH, if nothing was paid to it or is reserved for it");
        TrusteeDesk desk = Check.deskWith(1000);
        desk.asset();
        desk.claim(0, 10000);
        desk.secure(1, 0, 9999);
        desk.realise(1, 9999);
        desk.dividend(0, 9999);
        Check.due("what it got does not count, nor a due of 0", 0, desk.owes(0, 0));
        desk.dividend(0, 10000);
        Check.refused("a cent was paid", Check.STATE, desk, () -> desk.owes(0, 0));
        desk.claim(0, 1);
        desk.contest(1);
        desk.catchUp();
        Check.refused("a cent is reserved", Check.STATE, desk, () -> desk.owes(1, 0));
        desk.settle(1, 1);
        Check.refused("it was paid of what was reserved", Check.STATE, desk, () -> desk.owes(1, 0));
        TrusteeDesk other = Check.deskWith(1000);
        other.claim(0, 10000);
        other.contest(0);
        other.dividend(0, 1);
        other.settle(0, 9999);
        Check.due("all was released", 5, other.owes(0, 5));
    }

    private static void percentagesAtTheirEnds() {
        Check.sentence("Each rank has a PERCENTAGE, 0 .. 10000 hundredths of a percent, at first 0");
        TrusteeDesk desk = new TrusteeDesk();
        for (int rank = 0; rank < 8; rank++) {
            Check.due("at first", 0, desk.percentage(rank));
        }
        desk.dividend(0, 1);
        desk.dividend(7, 10000);
        Check.due("the least one given", 1, desk.percentage(0));
        Check.due("the greatest", 10000, desk.percentage(7));
        Check.due("another rank's", 0, desk.percentage(6));
    }

    private static void dueIsDownward() {
        Check.sentence("A claim's DUE is its net times its rank's percentage, divided by 10000, downward");
        TrusteeDesk desk = Check.deskWith(400000000);
        desk.claim(0, 1);
        desk.claim(0, 9999);
        desk.claim(0, 10000);
        desk.claim(0, 400000000 - 10000);
        dues(desk, 0, 0, 0, 0);
        desk.dividend(0, 1);
        dues(desk, 0, 0, 1, 39999);
        desk.dividend(0, 2);
        dues(desk, 0, 1, 2, 79998);
        desk.dividend(0, 9999);
        dues(desk, 0, 9998, 9999, 399950001);
        desk.asset();
        desk.realise(1, 10000);
        desk.dividend(0, 10000);
        dues(desk, 1, 9999, 10000, 399990000);
        TrusteeDesk most = Check.deskWith(400000000);
        most.claim(7, 400000000);
        most.dividend(7, 9999);
        dues(most, 399960000);
    }

    private static void dues(TrusteeDesk desk, long... want) {
        for (int i = 0; i < want.length; i++) {
            Check.due("due of claim " + i, want[i], desk.told(i, 8));
        }
    }

    private static void lacksNotBelowZero() {
        Check.sentence("What it LACKS is its due less what it was paid and what is reserved, 0 if that is below 0");
        TrusteeDesk desk = Check.deskWith(150);
        desk.asset();
        desk.asset();
        desk.claim(0, 100);
        desk.secure(1, 0, 100);
        desk.secure(2, 0, 100);
        desk.dividend(0, 5000);
        desk.realise(1, 60);
        Check.claim("30 more are reserved than due", desk, 0, 0, 100, 0, 60, 0, 50, 40, 20, 1);
        desk.claim(0, 200);
        Check.due("they do not pay for another", 5049, desk.greatest(0));
        Check.refused("they do not pay for another", Check.UNSUPPORTED, desk, () -> desk.dividend(0, 5050));
        Check.due("nor are they taken back", 100, desk.catchUp());
        Check.due("nor are they taken back", 50, desk.told(0, 6));
        Check.due("as much is due as reserved and paid", 0, desk.catchUp());
    }

    private static void served() {
        Check.sentence("To be SERVED with some cents: they leave the CASH, and are reserved, if it is open, else paid");
        TrusteeDesk desk = Check.deskWith(40);
        desk.asset();
        for (int i = 0; i < 4; i++) {
            desk.claim(0, 10);
        }
        desk.contest(1);
        desk.secure(1, 2, 1);
        Check.due("to the last cent", 40, desk.dividend(0, 10000));
        Check.journal("in turn", desk, 1, 4, 0, 10, 5, 1, 10, 5, 2, 10, 4, 3, 10);
        Check.sums("no cash is left", desk, 0, 20, 40, 0, 0, 20);
    }

    private static void settlesOnlyWithSomethingReserved() {
        Check.sentence("A claim SETTLES, when it is not open (any more) and has something reserved");
        TrusteeDesk desk = Check.deskWith(100);
        desk.asset();
        desk.asset();
        desk.dividend(0, 10000);
        for (int i = 0; i < 3; i++) {
            desk.claim(0, 10);
        }
        desk.secure(1, 0, 1);
        desk.secure(1, 1, 1);
        desk.secure(2, 1, 1);
        desk.contest(2);
        Check.due("nothing is reserved", 0, desk.settle(2, 10));
        desk.realise(1, 0);
        Check.journal("nothing is reserved", desk, 1);
        desk.catchUp();
        Check.journal("served now", desk, 1, 4, 0, 10, 5, 1, 10, 4, 2, 10);
        desk.asset();
        desk.realise(3, 0);
        Check.journal("claim 1 is open still", desk, 4);
        desk.realise(2, 0);
        Check.journal("not any more", desk, 4, 6, 1, 10);
    }

    private static void settlesForNothing() {
        Check.sentence("of that its due less what it was paid is paid (nothing if that is below 0, ..),"
                + " the rest is RELEASED: it goes to the cash");
        TrusteeDesk desk = Check.deskWith(100);
        desk.asset();
        desk.claim(0, 10);
        desk.claim(0, 10);
        desk.secure(1, 0, 10);
        desk.contest(1);
        desk.dividend(0, 9000);
        Check.due("a due of 0", 0, desk.settle(1, 1));
        Check.journal("all is released", desk, 3, 7, 1, 9);
        desk.realise(1, 9);
        Check.journal("all is released", desk, 4, 1, 1, 9, 2, 0, 9, 7, 0, 9);
        Check.sums("it went to the cash", desk, 100, 0, 109, 0, 9, 0);
    }

    private static void settlesForAllOfItAtMost() {
        Check.sentence("of that its due less what it was paid is paid (.. at most all of it)");
        TrusteeDesk desk = Check.deskWith(30);
        desk.dividend(0, 10000);
        desk.claim(0, 100);
        desk.contest(0);
        Check.due("the cash has less than it lacks", 30, desk.catchUp());
        Check.due("less is reserved than due", 30, desk.settle(0, 100));
        Check.journal("nothing is released", desk, 2, 6, 0, 30);
        Check.claim("it lacks the rest", desk, 0, 0, 100, 0, 0, 30, 0, 100, 100, 0);
        desk.asset();
        desk.realise(1, 100);
        Check.due("it lacks the rest", 70, desk.catchUp());
        TrusteeDesk exact = Check.deskWith(30);
        exact.dividend(0, 10000);
        exact.claim(0, 100);
        exact.contest(0);
        exact.catchUp();
        Check.due("as much is reserved as due", 30, exact.settle(0, 30));
        Check.journal("nothing is released", exact, 2, 6, 0, 30);
    }

    private static void journalWithoutZeroCents() {
        Check.sentence("THE JOURNAL has an ENTRY for each movement of cents that are not 0");
        TrusteeDesk desk = new TrusteeDesk();
        desk.asset();
        desk.asset();
        desk.claim(0, 1);
        desk.claim(0, 1);
        desk.claim(0, 1);
        desk.claim(1, 1);
        desk.owes(3, 1);
        desk.secure(1, 0, 1);
        desk.contest(1);
        Check.due("kind 1", 0, desk.realise(0, 0));
        Check.due("kind 3", 0, desk.cost(0));
        Check.due("kinds 4 and 5", 0, desk.dividend(0, 9999));
        Check.due("kinds 4 and 5", 0, desk.catchUp());
        Check.due("kinds 6 and 7", 0, desk.settle(1, 1));
        desk.contest(1);
        Check.due("kinds 6 and 7", 0, desk.settle(1, 0));
        Check.due("kinds 1, 2, 6 and 7", 0, desk.realise(1, 0));
        desk.contest(2);
        Check.due("kinds 7 and 8", 0, desk.end());
        Check.due("no entry", 0, desk.entries());
        TrusteeDesk netless = new TrusteeDesk();
        netless.asset();
        netless.claim(0, 5);
        netless.owes(0, 5);
        netless.secure(0, 0, 5);
        netless.realise(0, 3);
        netless.end();
        Check.journal("kinds 2 and 8 for a net of 0", netless, 0, 1, 0, 3);
    }

    private static void journalKeepsTheFirst3000() {
        Check.sentence("It keeps the first 3000");
        TrusteeDesk desk = Check.deskWith(400000000);
        for (int i = 0; i < 60; i++) {
            desk.claim(0, 10000);
        }
        for (int percentage = 1; percentage <= 49; percentage++) {
            desk.dividend(0, percentage);
        }
        for (int i = 0; i < 58; i++) {
            desk.cost(1);
        }
        Check.due("2999 entries", 2999, desk.entries());
        Check.refused("there is no entry 2999", Check.INDEX, desk, () -> desk.entry(2999, 0));
        desk.cost(7);
        Check.journal("the 3000th is kept", desk, 2999, 3, -1, 7);
        Check.refused("there is no entry 3000", Check.INDEX, desk, () -> desk.entry(3000, 0));
        desk.cost(8);
        Check.due("the 3001st is counted", 3001, desk.entries());
        Check.refused("the 3001st is not kept", Check.INDEX, desk, () -> desk.entry(3000, 0));
        Check.due("the 3000th stays", 7, desk.entry(2999, 2));
        Check.due("the first stays", 400000000, desk.entry(0, 2));
    }
}
