/** The example of README.md: the same calls, with the answers that stand behind them there. */
public final class ReadmeTest {
    public static void main(String[] args) {
        TrusteeDesk desk = new TrusteeDesk();
        int house = desk.asset();
        int bank = desk.claim(0, 50000);
        int baker = desk.claim(0, 30000);
        int friend = desk.claim(1, 20000);
        Check.due("owes", 2000, desk.owes(bank, 2000));
        Check.due("secure", 1, desk.secure(house, bank, 40000));
        Check.due("realise", 22000, desk.realise(house, 62000));
        Check.due("cost", 21000, desk.cost(1000));
        desk.contest(baker);
        Check.due("greatest", 5526, desk.greatest(0));
        Check.due("dividend", 19000, desk.dividend(0, 5000));
        Check.due("settle", 7500, desk.settle(baker, 15000));
        int late = desk.claim(0, 3001);
        Check.due("catchUp", 1500, desk.catchUp());
        Check.due("greatest of the rank behind", TrusteeDesk.NONE, desk.greatest(1));
        Check.due("end", 0, desk.end());
        Check.due("the bank was paid", 6461, desk.told(bank, 5));
        Check.due("the baker was paid", 12115, desk.told(baker, 5));
        Check.due("the late one was paid", 2424, desk.told(late, 5));
        Check.due("the friend was paid", 0, desk.told(friend, 5));
        Check.due("all that was paid", 21000, desk.sum(5));
        Check.due("entries", 11, desk.entries());
        Check.due("the last entry's kind", 8, desk.entry(10, 0));
        Check.due("whose it is", late, desk.entry(10, 1));
        Check.due("its cents", 924, desk.entry(10, 2));
        Check.finish();
    }
}
