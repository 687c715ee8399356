import java.util.function.LongSupplier;

/** Long runs of calls, the same each time, on the desk and on the slow one: every answer and exception is the same. */
public final class LongRunsTest {
    private static final int RUNS = 300;
    private static final int CALLS = 220;

    private final TrusteeDesk desk = new TrusteeDesk();
    private final SlowDesk slow = new SlowDesk();
    private final int run;
    private final Mix mix;
    private int claims = 0;
    private int assets = 0;

    private LongRunsTest(int run) {
        this.run = run;
        this.mix = new Mix(run * 7919L + 17);
    }

    public static void main(String[] args) {
        for (int run = 0; run < RUNS; run++) {
            new LongRunsTest(run).play();
        }
        Check.finish();
    }

    private void play() {
        for (int call = 0; call < CALLS; call++) {
            one(below(100));
            if (call % 20 == 19) {
                compareAll();
            }
        }
        for (int i = 0; i < assets; i++) {
            int asset = i;
            for (int k = 0; k < claims; k++) {
                int claim = k;
                both("settle", () -> desk.settle(claim, 1), () -> slow.settle(claim, 1));
            }
            both("realise", () -> desk.realise(asset, 50), () -> slow.realise(asset, 50));
        }
        both("end", desk::end, slow::end);
        compareAll();
        for (int call = 0; call < 30; call++) {
            one(below(100));
        }
        compareAll();
    }

    private void one(int which) {
        int claim = below(20) == 0 ? below(70) - 5 : below(claims + 1);
        int asset = below(20) == 0 ? below(25) - 2 : below(assets + 1);
        int rank = below(30) == 0 ? below(12) - 2 : below(run % 3 == 0 ? 8 : 2);
        long cents = someCents();
        if (which < 18) {
            both("claim", () -> desk.claim(rank, cents), () -> slow.claim(rank, cents));
            claims = slow.claims();
        } else if (which < 24) {
            both("owes", () -> desk.owes(claim, cents / 4), () -> slow.owes(claim, cents / 4));
        } else if (which < 30) {
            if (both("asset", desk::asset, slow::asset)) {
                assets++;
            }
        } else if (which < 42) {
            both("secure", () -> desk.secure(asset, claim, cents), () -> slow.secure(asset, claim, cents));
        } else if (which < 48) {
            both("realise", () -> desk.realise(asset, cents), () -> slow.realise(asset, cents));
        } else if (which < 56) {
            both("contest", () -> contested(() -> desk.contest(claim)), () -> contested(() -> slow.contest(claim)));
        } else if (which < 62) {
            long part = below(4) == 0 ? 0 : cents / (1 + below(3));
            both("settle", () -> desk.settle(claim, part), () -> slow.settle(claim, part));
        } else if (which < 66) {
            both("cost", () -> desk.cost(cents / 9), () -> slow.cost(cents / 9));
        } else if (which < 82) {
            share(rank);
        } else if (which < 87) {
            both("catchUp", desk::catchUp, slow::catchUp);
        } else if (which < 88) {
            if (below(12) == 0) {
                both("end", desk::end, slow::end);
            }
        } else {
            read(claim, rank);
        }
    }

    private void share(int rank) {
        boolean knows = both("greatest", () -> desk.greatest(rank), () -> slow.greatest(rank));
        int most = knows ? Math.max(1, desk.greatest(rank)) : 1;
        int own = knows ? desk.percentage(rank) : 0;
        int kind = below(5);
        int some = kind == 0 ? most : kind == 1 ? most + 1 : kind == 2 ? below(10003) : own + 1 + below(900);
        both("dividend", () -> desk.dividend(rank, some), () -> slow.dividend(rank, some));
    }

    private void read(int claim, int rank) {
        int what = below(14) - 2;
        int entry = below(slow.entries() + 2) - 1;
        both("told", () -> desk.told(claim, what), () -> slow.told(claim, what));
        both("percentage", () -> desk.percentage(rank), () -> slow.percentage(rank));
        both("sum", () -> desk.sum(what), () -> slow.sum(what));
        both("entry", () -> desk.entry(entry, what / 2), () -> slow.entry(entry, what / 2));
    }

    private void compareAll() {
        for (int k = 0; k < claims; k++) {
            int claim = k;
            for (int w = 0; w < 10; w++) {
                int what = w;
                both("told", () -> desk.told(claim, what), () -> slow.told(claim, what));
            }
        }
        for (int w = 0; w < 6; w++) {
            int what = w;
            both("sum", () -> desk.sum(what), () -> slow.sum(what));
        }
        Check.due("run " + run + " no cent is lost", desk.sum(2),
                desk.sum(0) + desk.sum(1) + desk.sum(3) + desk.sum(4) + desk.sum(5));
        both("entries", desk::entries, slow::entries);
        for (int k = 0; k < slow.entries(); k++) {
            int entry = k;
            for (int w = 0; w < 3; w++) {
                int what = w;
                both("entry", () -> desk.entry(entry, what), () -> slow.entry(entry, what));
            }
        }
    }

    /** Whether neither threw. */
    private boolean both(String what, LongSupplier call, LongSupplier slowCall) {
        String got = answer(call);
        String want = answer(slowCall);
        Check.due("run " + run + " " + what + " (" + got + ", due is " + want + ")", 1, got.equals(want) ? 1 : 0);
        return !got.startsWith("throws") && !want.startsWith("throws");
    }

    private static String answer(LongSupplier call) {
        try {
            return Long.toString(call.getAsLong());
        } catch (RuntimeException e) {
            return "throws " + e.getClass().getSimpleName();
        }
    }

    private static long contested(Runnable call) {
        call.run();
        return 0;
    }

    private long someCents() {
        int kind = below(40);
        if (kind == 0) {
            return below(3) - 1;
        }
        if (kind == 1) {
            return 400000000L - 1 + below(3);
        }
        return 1 + below(run % 2 == 0 ? 300 : 90000);
    }

    private int below(int bound) {
        return mix.below(bound);
    }
}
