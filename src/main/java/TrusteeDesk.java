/**
 * The desk of a trustee who shares out what is left of an estate.
 * What each call promises stands in the project's document; the comments here only say why.
 */
public final class TrusteeDesk {
    public static final int NONE = -1;

    private static final long MOST_CENTS = 400000000L;
    private static final int RANKS = 8;
    private static final int MOST_CLAIMS = 60;
    private static final int MOST_ASSETS = 20;
    private static final int MOST_SECURITIES = 4;
    private static final int WHOLE = 10000;
    private static final int KEPT_ENTRIES = 3000;
    /** The greatest power of two that is not above WHOLE. */
    private static final int WIDEST_STEP = 8192;

    private static final int ADMITTED = 0;
    private static final int CONTESTED = 1;
    private static final int OUT = 2;

    private static final int KIND_REALISED = 1;
    private static final int KIND_GOT = 2;
    private static final int KIND_COST = 3;
    private static final int KIND_PAID = 4;
    private static final int KIND_RESERVED = 5;
    private static final int KIND_PAID_OF_RESERVE = 6;
    private static final int KIND_RELEASED = 7;
    private static final int KIND_PAID_AT_END = 8;

    private final Claim[] claims;
    private int claimCount;
    private final Asset[] assets;
    private int assetCount;
    private final int[] percentages;
    private final Journal journal;
    private long cash;
    private long realisedCents;
    private long spentCents;
    private boolean ended;

    public TrusteeDesk() {
        claims = new Claim[MOST_CLAIMS];
        assets = new Asset[MOST_ASSETS];
        percentages = new int[RANKS];
        journal = new Journal();
    }

    public int claim(int rank, long cents)
            throws IllegalArgumentException, UnsupportedOperationException, IllegalStateException {
        requireRank(rank);
        requireCents(cents, 1);
        if (claimCount >= MOST_CLAIMS) {
            throw new UnsupportedOperationException("there are 60 claims");
        }
        requireNotEnded();
        int number = claimCount;
        claims[number] = new Claim(number, rank, cents);
        claimCount++;
        return number;
    }

    public long owes(int claim, long cents)
            throws IndexOutOfBoundsException, IllegalArgumentException, IllegalStateException {
        Claim debtor = claimAt(claim);
        requireCents(cents, 0);
        requireNotEnded();
        if (debtor.state == OUT || !debtor.isFresh()) {
            throw new IllegalStateException("the claim is out, or not fresh");
        }
        debtor.debt += cents;
        return debtor.debt;
    }

    public int asset() throws UnsupportedOperationException, IllegalStateException {
        if (assetCount >= MOST_ASSETS) {
            throw new UnsupportedOperationException("there are 20 assets");
        }
        requireNotEnded();
        int number = assetCount;
        assets[number] = new Asset();
        assetCount++;
        return number;
    }

    public int secure(int asset, int claim, long limit)
            throws IndexOutOfBoundsException, IllegalArgumentException,
            UnsupportedOperationException, IllegalStateException {
        Asset pledge = assetAt(asset);
        Claim holder = claimAt(claim);
        requireCents(limit, 1);
        if (pledge.count >= MOST_SECURITIES) {
            throw new UnsupportedOperationException("the asset has 4 securities");
        }
        requireNotEnded();
        if (pledge.isRealised || pledge.secures(holder) || holder.state == OUT || !holder.isFresh()) {
            throw new IllegalStateException("the asset or the claim does not allow a security");
        }
        pledge.add(holder, limit);
        holder.unrealisedSecurities++;
        return pledge.count;
    }

    public long realise(int asset, long cents)
            throws IndexOutOfBoundsException, IllegalArgumentException, IllegalStateException {
        Asset sold = assetAt(asset);
        requireCents(cents, 0);
        requireNotEnded();
        if (sold.isRealised || sold.securesContested()) {
            throw new IllegalStateException("the asset is realised, or a claim in it is contested");
        }
        sold.isRealised = true;
        realisedCents += cents;
        journal.note(KIND_REALISED, asset, cents);
        long rest = cents - giveToSecurities(sold, cents);
        cash += rest;
        for (int i = 0; i < claimCount; i++) {
            resolveReserve(claims[i]);
        }
        return rest;
    }

    public void contest(int claim) throws IndexOutOfBoundsException, IllegalStateException {
        Claim contested = claimAt(claim);
        requireNotEnded();
        if (contested.state != ADMITTED || !contested.isFresh()) {
            throw new IllegalStateException("the claim is not admitted, or not fresh");
        }
        contested.state = CONTESTED;
    }

    public long settle(int claim, long cents)
            throws IndexOutOfBoundsException, IllegalArgumentException, IllegalStateException {
        Claim contested = claimAt(claim);
        if (cents < 0 || cents > contested.amount) {
            throw new IllegalArgumentException("the cents are below 0, or above the amount");
        }
        requireNotEnded();
        if (contested.state != CONTESTED) {
            throw new IllegalStateException("the claim is not contested");
        }
        if (cents == 0) {
            contested.state = OUT;
        } else {
            contested.state = ADMITTED;
            contested.amount = cents;
        }
        if (contested.isOpen()) {
            release(contested, Math.max(0L, contested.reserved - dueOf(contested)));
            return 0;
        }
        return resolveReserve(contested);
    }

    public long cost(long cents) throws IllegalArgumentException, IllegalStateException {
        requireCents(cents, 0);
        requireNotEnded();
        if (cash < cents) {
            throw new IllegalStateException("the cash has less");
        }
        cash -= cents;
        spentCents += cents;
        journal.note(KIND_COST, NONE, cents);
        return cash;
    }

    public long dividend(int rank, int percentage)
            throws IllegalArgumentException, IllegalStateException, UnsupportedOperationException {
        requireRank(rank);
        if (percentage < 1 || percentage > WHOLE) {
            throw new IllegalArgumentException("the percentage is not 1 .. 10000");
        }
        requireNotEnded();
        if (percentage <= percentages[rank] || isBlocked(rank)) {
            throw new IllegalStateException("not above the rank's, or a rank before it is not whole");
        }
        if (needFor(rank, percentage) > cash) {
            throw new UnsupportedOperationException("the cash has less");
        }
        percentages[rank] = percentage;
        return serveThrough(rank);
    }

    public int greatest(int rank) throws IllegalArgumentException {
        requireRank(rank);
        if (ended || isBlocked(rank)) {
            return NONE;
        }
        // The need never falls as the percentage rises, so ever smaller steps find the last one it allows.
        int best = percentages[rank];
        for (int step = WIDEST_STEP; step > 0; step /= 2) {
            if (best + step <= WHOLE && needFor(rank, best + step) <= cash) {
                best += step;
            }
        }
        return best;
    }

    public long catchUp() throws IllegalStateException {
        requireNotEnded();
        return serveThrough(RANKS - 1);
    }

    public long end() throws IllegalStateException {
        requireNotEnded();
        for (int i = 0; i < assetCount; i++) {
            if (!assets[i].isRealised) {
                throw new IllegalStateException("an asset is not realised");
            }
        }
        dropContested();
        serveThrough(RANKS - 1);
        for (int rank = 0; rank < RANKS; rank++) {
            payUnpaidNets(rank);
        }
        ended = true;
        return cash;
    }

    public long told(int claim, int what) throws IndexOutOfBoundsException, IllegalArgumentException {
        Claim asked = claimAt(claim);
        switch (what) {
            case 0: return asked.rank;
            case 1: return asked.state;
            case 2: return asked.amount;
            case 3: return asked.debt;
            case 4: return asked.got;
            case 5: return asked.paid;
            case 6: return asked.reserved;
            case 7: return asked.net();
            case 8: return dueOf(asked);
            case 9: return asked.isOpen() ? 1 : 0;
            default: throw new IllegalArgumentException("nothing else is told of a claim");
        }
    }

    public int percentage(int rank) throws IllegalArgumentException {
        requireRank(rank);
        return percentages[rank];
    }

    public long sum(int what) {
        switch (what) {
            case 0: return cash;
            case 1: return allReserved();
            case 2: return realisedCents;
            case 3: return spentCents;
            case 4: return allGot();
            case 5: return allPaid();
            default: return NONE;
        }
    }

    public int entries() {
        return journal.count;
    }

    public long entry(int i, int what) throws IndexOutOfBoundsException, IllegalArgumentException {
        if (!journal.keeps(i)) {
            throw new IndexOutOfBoundsException("no such entry is kept");
        }
        switch (what) {
            case 0: return journal.kinds[i];
            case 1: return journal.owners[i];
            case 2: return journal.cents[i];
            default: throw new IllegalArgumentException("nothing else is told of an entry");
        }
    }

    private void requireNotEnded() {
        if (ended) {
            throw new IllegalStateException("all is at its end");
        }
    }

    private static void requireRank(int rank) {
        if (rank < 0 || rank >= RANKS) {
            throw new IllegalArgumentException("there is no such rank");
        }
    }

    private static void requireCents(long cents, long least) {
        if (cents < least || cents > MOST_CENTS) {
            throw new IllegalArgumentException("no such cents");
        }
    }

    private Claim claimAt(int number) {
        if (number < 0 || number >= claimCount) {
            throw new IndexOutOfBoundsException("there is no such claim");
        }
        return claims[number];
    }

    private Asset assetAt(int number) {
        if (number < 0 || number >= assetCount) {
            throw new IndexOutOfBoundsException("there is no such asset");
        }
        return assets[number];
    }

    private long dueOf(Claim claim) {
        return claim.dueAt(percentages[claim.rank]);
    }

    /** An OUT claim gets nothing any more, so it keeps no rank behind it waiting. */
    private boolean isBlocked(int rank) {
        for (int i = 0; i < claimCount; i++) {
            Claim other = claims[i];
            if (other.rank < rank && other.state != OUT && percentages[other.rank] != WHOLE) {
                return true;
            }
        }
        return false;
    }

    /** Counted before a cent moves, as a dividend that the cash can't bear changes nothing. */
    private long needFor(int rank, int percentage) {
        long need = 0;
        for (int i = 0; i < claimCount; i++) {
            Claim claim = claims[i];
            if (claim.rank < rank) {
                need += claim.lackAt(percentages[claim.rank]);
            } else if (claim.rank == rank) {
                need += claim.lackAt(percentage);
            }
        }
        return need;
    }

    /** A dividend has looked at the cash before it comes here, so the cash cuts short a catching up alone. */
    private long serveThrough(int lastRank) {
        long served = 0;
        for (int rank = 0; rank <= lastRank; rank++) {
            for (int i = 0; i < claimCount; i++) {
                Claim claim = claims[i];
                if (claim.rank == rank) {
                    long cents = Math.min(claim.lackAt(percentages[rank]), cash);
                    serve(claim, cents);
                    served += cents;
                }
            }
        }
        return served;
    }

    private void serve(Claim claim, long cents) {
        cash -= cents;
        if (claim.isOpen()) {
            claim.reserved += cents;
            journal.note(KIND_RESERVED, claim.number, cents);
        } else {
            claim.paid += cents;
            journal.note(KIND_PAID, claim.number, cents);
        }
    }

    private long giveToSecurities(Asset sold, long cents) {
        long given = 0;
        for (int i = 0; i < sold.count; i++) {
            Claim holder = sold.holders[i];
            long part = Math.min(Math.min(sold.limits[i], holder.net()), cents - given);
            holder.got += part;
            holder.unrealisedSecurities--;
            given += part;
            journal.note(KIND_GOT, holder.number, part);
        }
        return given;
    }

    /** The document says that a claim settles; the public call has that name, so it can't be used again. */
    private long resolveReserve(Claim claim) {
        if (claim.isOpen() || claim.reserved == 0) {
            return 0;
        }
        long cents = Math.min(Math.max(0L, dueOf(claim) - claim.paid), claim.reserved);
        claim.reserved -= cents;
        claim.paid += cents;
        journal.note(KIND_PAID_OF_RESERVE, claim.number, cents);
        release(claim, claim.reserved);
        return cents;
    }

    private void release(Claim claim, long cents) {
        claim.reserved -= cents;
        cash += cents;
        journal.note(KIND_RELEASED, claim.number, cents);
    }

    private void dropContested() {
        for (int i = 0; i < claimCount; i++) {
            Claim claim = claims[i];
            if (claim.state == CONTESTED) {
                claim.state = OUT;
                release(claim, claim.reserved);
            }
        }
    }

    private void payUnpaidNets(int rank) {
        long allUnpaid = 0;
        for (int i = 0; i < claimCount; i++) {
            if (claims[i].rank == rank) {
                allUnpaid += claims[i].unpaidNet();
            }
        }
        if (cash < allUnpaid) {
            shareCash(rank, allUnpaid);
            return;
        }
        for (int i = 0; i < claimCount; i++) {
            if (claims[i].rank == rank) {
                payAtEnd(claims[i], claims[i].unpaidNet());
            }
        }
    }

    /** What is unpaid is above the cash here, and so above 0; it is looked at all the same, as it divides. */
    private void shareCash(int rank, long allUnpaid) {
        long pot = cash;
        long leftOver = pot;
        long[] shares = new long[claimCount];
        long[] remainders = new long[claimCount];
        for (int i = 0; i < claimCount; i++) {
            if (claims[i].rank == rank && allUnpaid > 0) {
                // An unpaid net is at most 4 * 10^8 and the pot at most 8 * 10^9, so the product fits a long.
                long product = claims[i].unpaidNet() * pot;
                shares[i] = product / allUnpaid;
                remainders[i] = product % allUnpaid;
                leftOver -= shares[i];
            }
        }
        addLeftOverCents(shares, remainders, leftOver);
        for (int i = 0; i < claimCount; i++) {
            payAtEnd(claims[i], shares[i]);
        }
    }

    /** There are always more remainders above 0 than cents left over, as each remainder is below one cent. */
    private static void addLeftOverCents(long[] shares, long[] remainders, long leftOver) {
        for (long cent = 0; cent < leftOver; cent++) {
            int next = NONE;
            long greatestRemainder = 0;
            for (int i = 0; i < remainders.length; i++) {
                if (remainders[i] > greatestRemainder) {
                    next = i;
                    greatestRemainder = remainders[i];
                }
            }
            if (next == NONE) {
                return;
            }
            shares[next]++;
            remainders[next] = 0;
        }
    }

    private void payAtEnd(Claim claim, long cents) {
        cash -= cents;
        claim.paid += cents;
        journal.note(KIND_PAID_AT_END, claim.number, cents);
    }

    private long allReserved() {
        long all = 0;
        for (int i = 0; i < claimCount; i++) {
            all += claims[i].reserved;
        }
        return all;
    }

    private long allGot() {
        long all = 0;
        for (int i = 0; i < claimCount; i++) {
            all += claims[i].got;
        }
        return all;
    }

    private long allPaid() {
        long all = 0;
        for (int i = 0; i < claimCount; i++) {
            all += claims[i].paid;
        }
        return all;
    }

    private static final class Claim {
        final int number;
        final int rank;
        int state;
        long amount;
        long debt;
        long got;
        long paid;
        long reserved;
        int unrealisedSecurities;

        Claim(int number, int rank, long amount) {
            this.number = number;
            this.rank = rank;
            this.amount = amount;
            this.state = ADMITTED;
        }

        boolean isOpen() {
            return state == CONTESTED || (state != OUT && unrealisedSecurities > 0);
        }

        boolean isFresh() {
            return paid == 0 && reserved == 0;
        }

        long net() {
            return state == OUT ? 0L : Math.max(0L, amount - debt - got);
        }

        long dueAt(int percentage) {
            return net() * percentage / WHOLE;
        }

        long lackAt(int percentage) {
            return Math.max(0L, dueAt(percentage) - paid - reserved);
        }

        long unpaidNet() {
            return Math.max(0L, net() - paid);
        }
    }

    private static final class Asset {
        final Claim[] holders;
        final long[] limits;
        int count;
        boolean isRealised;

        Asset() {
            holders = new Claim[MOST_SECURITIES];
            limits = new long[MOST_SECURITIES];
        }

        void add(Claim holder, long limit) {
            holders[count] = holder;
            limits[count] = limit;
            count++;
        }

        boolean secures(Claim claim) {
            for (int i = 0; i < count; i++) {
                if (holders[i] == claim) {
                    return true;
                }
            }
            return false;
        }

        boolean securesContested() {
            for (int i = 0; i < count; i++) {
                if (holders[i].state == CONTESTED) {
                    return true;
                }
            }
            return false;
        }
    }

    private static final class Journal {
        final int[] kinds;
        final int[] owners;
        final long[] cents;
        /** It goes on where no more entries are kept, as they are entries all the same. */
        int count;

        Journal() {
            kinds = new int[KEPT_ENTRIES];
            owners = new int[KEPT_ENTRIES];
            cents = new long[KEPT_ENTRIES];
        }

        void note(int kind, int owner, long moved) {
            if (moved == 0) {
                return;
            }
            if (count < KEPT_ENTRIES) {
                kinds[count] = kind;
                owners[count] = owner;
                cents[count] = moved;
            }
            count++;
        }

        boolean keeps(int i) {
            return i >= 0 && i < count && i < KEPT_ENTRIES;
        }
    }
}
