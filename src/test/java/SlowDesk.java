import java.math.BigInteger;
import java.util.ArrayList;
import java.util.List;
import java.util.function.LongSupplier;

/**
 * A second telling of the document, written to be plain and not fast: it keeps the whole journal and reads all sums
 * out of it, and tries every percentage for greatest(). A call that is refused throws before it changes anything.
 */
final class SlowDesk {
    record Entry(int kind, int whose, long cents) {
    }

    record Security(int claim, long limit) {
    }

    private final List<Integer> ranks = new ArrayList<>();
    private final List<Integer> states = new ArrayList<>();
    private final List<Long> amounts = new ArrayList<>();
    private final List<Long> debts = new ArrayList<>();
    private final List<List<Security>> securities = new ArrayList<>();
    private final List<Boolean> realised = new ArrayList<>();
    private final int[] percentages = new int[8];
    private final List<Entry> journal = new ArrayList<>();
    private boolean ended = false;

    int claim(int rank, long cents) {
        argument(rank >= 0 && rank <= 7 && cents != 0 && isCents(cents));
        supported(ranks.size() < 60);
        state(!ended);
        ranks.add(rank);
        states.add(0);
        amounts.add(cents);
        debts.add(0L);
        return ranks.size() - 1;
    }

    long owes(int c, long cents) {
        index(c, ranks.size());
        argument(isCents(cents));
        state(!ended && states.get(c) != 2 && fresh(c));
        debts.set(c, debts.get(c) + cents);
        return debts.get(c);
    }

    int asset() {
        supported(securities.size() < 20);
        state(!ended);
        securities.add(new ArrayList<>());
        realised.add(false);
        return securities.size() - 1;
    }

    int secure(int a, int c, long limit) {
        index(a, securities.size());
        index(c, ranks.size());
        argument(limit != 0 && isCents(limit));
        supported(securities.get(a).size() < 4);
        state(!ended && !realised.get(a) && securities.get(a).stream().noneMatch(s -> s.claim() == c)
                && states.get(c) != 2 && fresh(c));
        securities.get(a).add(new Security(c, limit));
        return securities.get(a).size();
    }

    long realise(int a, long cents) {
        index(a, securities.size());
        argument(isCents(cents));
        state(!ended && !realised.get(a)
                && securities.get(a).stream().noneMatch(s -> states.get(s.claim()) == 1));
        realised.set(a, true);
        move(1, a, cents);
        long left = cents;
        for (Security security : securities.get(a)) {
            long part = Math.min(security.limit(), Math.min(net(security.claim()), left));
            move(2, security.claim(), part);
            left -= part;
        }
        for (int c = 0; c < ranks.size(); c++) {
            settles(c);
        }
        return left;
    }

    void contest(int c) {
        index(c, ranks.size());
        state(!ended && states.get(c) == 0 && fresh(c));
        states.set(c, 1);
    }

    long settle(int c, long cents) {
        index(c, ranks.size());
        argument(cents >= 0 && cents <= amounts.get(c));
        state(!ended && states.get(c) == 1);
        long paidBefore = paid(c);
        states.set(c, cents == 0 ? 2 : 0);
        amounts.set(c, cents == 0 ? amounts.get(c) : cents);
        if (open(c)) {
            move(7, c, Math.max(0, reserved(c) - due(c)));
        } else {
            settles(c);
        }
        return paid(c) - paidBefore;
    }

    long cost(long cents) {
        argument(isCents(cents));
        state(!ended && cash() >= cents);
        move(3, -1, cents);
        return cash();
    }

    long dividend(int rank, int percentage) {
        argument(rank >= 0 && rank <= 7 && percentage >= 1 && percentage <= 10000);
        state(!ended && percentage > percentages[rank] && !inTheWay(rank));
        int before = percentages[rank];
        percentages[rank] = percentage;
        if (lacks(rank) > cash()) {
            percentages[rank] = before;
            throw new UnsupportedOperationException();
        }
        return serve(rank);
    }

    int greatest(int rank) {
        argument(rank >= 0 && rank <= 7);
        if (ended || inTheWay(rank)) {
            return -1;
        }
        int own = percentages[rank];
        int best = own;
        long cash = cash();
        List<Long> nets = new ArrayList<>();
        List<Long> had = new ArrayList<>();
        long before = rank == 0 ? 0 : lacks(rank - 1);
        for (int c = 0; c < ranks.size(); c++) {
            if (ranks.get(c) == rank) {
                nets.add(net(c));
                had.add(paid(c) + reserved(c));
            }
        }
        for (int tried = own + 1; tried <= 10000; tried++) {
            long need = before;
            for (int k = 0; k < nets.size(); k++) {
                need += Math.max(0, nets.get(k) * tried / 10000 - had.get(k));
            }
            best = need <= cash ? tried : best;
        }
        return best;
    }

    long catchUp() {
        state(!ended);
        return serve(7);
    }

    long end() {
        state(!ended && !realised.contains(false));
        for (int c = 0; c < ranks.size(); c++) {
            if (states.get(c) == 1) {
                long reserve = reserved(c);
                states.set(c, 2);
                move(7, c, reserve);
            }
        }
        serve(7);
        for (int rank = 0; rank < 8; rank++) {
            share(rank);
        }
        ended = true;
        return cash();
    }

    long told(int c, int what) {
        index(c, ranks.size());
        LongSupplier[] all = {() -> ranks.get(c), () -> states.get(c), () -> amounts.get(c), () -> debts.get(c),
            () -> got(c), () -> paid(c), () -> reserved(c), () -> net(c), () -> due(c), () -> open(c) ? 1 : 0};
        argument(what >= 0 && what < all.length);
        return all[what].getAsLong();
    }

    int percentage(int rank) {
        argument(rank >= 0 && rank <= 7);
        return percentages[rank];
    }

    long sum(int what) {
        LongSupplier[] all = {this::cash, () -> total(5) - total(6) - total(7), () -> total(1), () -> total(3),
            () -> total(2), () -> total(4) + total(6) + total(8)};
        return what >= 0 && what < all.length ? all[what].getAsLong() : -1;
    }

    int entries() {
        return journal.size();
    }

    long entry(int i, int what) {
        index(i, Math.min(3000, journal.size()));
        argument(what >= 0 && what <= 2);
        Entry entry = journal.get(i);
        return what == 0 ? entry.kind() : what == 1 ? entry.whose() : entry.cents();
    }

    int claims() {
        return ranks.size();
    }

    private void share(int rank) {
        List<Integer> sharers = new ArrayList<>();
        BigInteger all = BigInteger.ZERO;
        for (int c = 0; c < ranks.size(); c++) {
            if (ranks.get(c) == rank && net(c) > paid(c)) {
                sharers.add(c);
                all = all.add(BigInteger.valueOf(net(c) - paid(c)));
            }
        }
        BigInteger pot = BigInteger.valueOf(cash()).min(all);
        List<Long> parts = new ArrayList<>();
        List<BigInteger> remainders = new ArrayList<>();
        long leftOver = pot.longValue();
        for (int c : sharers) {
            BigInteger[] part = BigInteger.valueOf(net(c) - paid(c)).multiply(pot).divideAndRemainder(all);
            parts.add(part[0].longValue());
            remainders.add(part[1]);
            leftOver -= part[0].longValue();
        }
        List<Integer> order = new ArrayList<>();
        for (int k = 0; k < sharers.size(); k++) {
            order.add(k);
        }
        order.sort((x, y) -> remainders.get(y).compareTo(remainders.get(x)));
        for (int k = 0; k < leftOver; k++) {
            parts.set(order.get(k), parts.get(order.get(k)) + 1);
        }
        for (int k = 0; k < sharers.size(); k++) {
            move(8, sharers.get(k), parts.get(k));
        }
    }

    private void settles(int c) {
        if (open(c) || reserved(c) == 0) {
            return;
        }
        move(6, c, Math.min(reserved(c), Math.max(0, due(c) - paid(c))));
        move(7, c, reserved(c));
    }

    private long serve(int lastRank) {
        long served = 0;
        for (int rank = 0; rank <= lastRank; rank++) {
            for (int c = 0; c < ranks.size(); c++) {
                if (ranks.get(c) == rank) {
                    long cents = Math.min(lack(c), cash());
                    move(open(c) ? 5 : 4, c, cents);
                    served += cents;
                }
            }
        }
        return served;
    }

    private long lacks(int lastRank) {
        long all = 0;
        for (int c = 0; c < ranks.size(); c++) {
            all += ranks.get(c) <= lastRank ? lack(c) : 0;
        }
        return all;
    }

    private boolean inTheWay(int rank) {
        for (int c = 0; c < ranks.size(); c++) {
            if (ranks.get(c) < rank && states.get(c) != 2 && percentages[ranks.get(c)] != 10000) {
                return true;
            }
        }
        return false;
    }

    private long lack(int c) {
        return Math.max(0, due(c) - paid(c) - reserved(c));
    }

    private long due(int c) {
        return net(c) * percentages[ranks.get(c)] / 10000;
    }

    private long net(int c) {
        return states.get(c) == 2 ? 0 : Math.max(0, amounts.get(c) - debts.get(c) - got(c));
    }

    private boolean open(int c) {
        boolean secured = false;
        for (int a = 0; a < securities.size(); a++) {
            secured |= !realised.get(a) && securities.get(a).stream().anyMatch(s -> s.claim() == c);
        }
        return states.get(c) != 2 && (states.get(c) == 1 || secured);
    }

    private boolean fresh(int c) {
        return paid(c) == 0 && reserved(c) == 0;
    }

    private long got(int c) {
        return of(c, 2);
    }

    private long paid(int c) {
        return of(c, 4) + of(c, 6) + of(c, 8);
    }

    private long reserved(int c) {
        return of(c, 5) - of(c, 6) - of(c, 7);
    }

    private long cash() {
        return total(1) - total(2) - total(3) - total(4) - total(5) + total(7) - total(8);
    }

    private long of(int c, int kind) {
        long all = 0;
        for (Entry entry : journal) {
            all += entry.kind() == kind && entry.whose() == c ? entry.cents() : 0;
        }
        return all;
    }

    private long total(int kind) {
        long all = 0;
        for (Entry entry : journal) {
            all += entry.kind() == kind ? entry.cents() : 0;
        }
        return all;
    }

    private void move(int kind, int whose, long cents) {
        if (cents != 0) {
            journal.add(new Entry(kind, whose, cents));
        }
    }

    private static boolean isCents(long cents) {
        return cents >= 0 && cents <= 400000000;
    }

    private static void index(int i, int size) {
        if (i < 0 || i >= size) {
            throw new IndexOutOfBoundsException();
        }
    }

    private static void argument(boolean fits) {
        if (!fits) {
            throw new IllegalArgumentException();
        }
    }

    private static void supported(boolean fits) {
        if (!fits) {
            throw new UnsupportedOperationException();
        }
    }

    private static void state(boolean fits) {
        if (!fits) {
            throw new IllegalStateException();
        }
    }
}
