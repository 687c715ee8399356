import java.util.function.ToLongFunction;

/**
 * What "Terms" says of a call that throws: it changes nothing. One desk has all calls of a run, its twin only those
 * that did not throw; all their answers are the same, also where they tell of what no call reads, as securities.
 */
public final class TwinTest {
    private static final int RUNS = 400;
    private static final int CALLS = 430;
    private static final int[] RANKS = {0, 0, 0, 1, 1, 2, 7, -1, 8};
    private static final long[] CENTS = {0, 1, 2, 10, 99, 100, 101, 5000, 10000, 400000000, 400000001, -1};
    private static final int[] PERCENTAGES = {0, 1, 50, 99, 2500, 5000, 9999, 10000, 10001, -1};

    private final TrusteeDesk desk = new TrusteeDesk();
    private final TrusteeDesk twin = new TrusteeDesk();
    private final int run;
    private final Mix mix;
    private int claims = 0;
    private int assets = 0;
    private int refused = 0;

    private TwinTest(int run) {
        this.run = run;
        this.mix = new Mix(run * 104729L + 5);
    }

    public static void main(String[] args) {
        Check.sentence("a call that throws changes nothing");
        int refused = 0;
        for (int run = 0; run < RUNS; run++) {
            TwinTest test = new TwinTest(run);
            test.play();
            refused += test.refused;
        }
        Check.due("many calls were refused", 1, refused > RUNS * CALLS / 5 ? 1 : 0);
        Check.finish();
    }

    private void play() {
        for (int call = 0; call < CALLS; call++) {
            one(mix.below(13), call);
        }
        samePicture("before the last calls");
        for (int i = 0; i < claims; i++) {
            int claim = i;
            same("settle", d -> d.settle(claim, 1));
        }
        for (int i = 0; i < assets; i++) {
            int asset = i;
            same("realise", d -> d.realise(asset, 100));
        }
        same("end", TrusteeDesk::end);
        samePicture("behind them");
    }

    private void samePicture(String when) {
        boolean isSame = Check.picture(desk).equals(Check.picture(twin));
        Check.due("run " + run + ", the same picture " + when, 1, isSame ? 1 : 0);
    }

    /** Both answer the same, or throw: the last calls come to both of them. */
    private void same(String what, ToLongFunction<TrusteeDesk> call) {
        Check.due("run " + run + ", " + what + " as a last call", answerOf(twin, call), answerOf(desk, call));
    }

    private void one(int which, int call) {
        int claim = mix.below(claims + 2) - (mix.below(9) == 0 ? 1 : 0);
        int asset = mix.below(assets + 2) - (mix.below(9) == 0 ? 1 : 0);
        int rank = RANKS[mix.below(RANKS.length)];
        long cents = CENTS[mix.below(CENTS.length)];
        int percentage = PERCENTAGES[mix.below(PERCENTAGES.length)];
        switch (which) {
            case 0: claims += both("claim", d -> d.claim(rank, cents)); break;
            case 1: both("owes", d -> d.owes(claim, cents)); break;
            case 2: assets += both("asset", TrusteeDesk::asset); break;
            case 3: both("secure", d -> d.secure(asset, claim, cents)); break;
            case 4: both("realise", d -> d.realise(asset, cents)); break;
            case 5: both("contest", d -> contested(d, claim)); break;
            case 6: both("settle", d -> d.settle(claim, cents)); break;
            case 7: both("cost", d -> d.cost(cents)); break;
            case 8: both("dividend", d -> d.dividend(rank, percentage)); break;
            case 9: both("greatest", d -> d.greatest(rank)); break;
            case 10: both("catchUp", TrusteeDesk::catchUp); break;
            case 11: both("told", d -> d.told(claim, percentage % 12)); break;
            default:
                if (call > CALLS - 40 && run % 2 == 0) {
                    both("end", TrusteeDesk::end);
                } else {
                    both("entry", d -> d.entry(someEntry(call), percentage % 4));
                }
        }
    }

    private int someEntry(int call) {
        return call % (desk.entries() + 1);
    }

    /** How many more there are: 1, if the call did not throw. */
    private int both(String what, ToLongFunction<TrusteeDesk> call) {
        long got;
        try {
            got = call.applyAsLong(desk);
        } catch (RuntimeException e) {
            refused++;
            return 0;
        }
        Check.due("run " + run + ", " + what + " behind refused calls", answerOf(twin, call), got);
        return 1;
    }

    private static long answerOf(TrusteeDesk asked, ToLongFunction<TrusteeDesk> call) {
        try {
            return call.applyAsLong(asked);
        } catch (RuntimeException e) {
            return Long.MIN_VALUE;
        }
    }

    private static long contested(TrusteeDesk desk, int claim) {
        desk.contest(claim);
        return 0;
    }
}
