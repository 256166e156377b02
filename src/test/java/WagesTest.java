/** Promises 19 to 23: work, telling a firm, firing, awards, and days. */
public final class WagesTest {
    private static final int NONE = RelatorsBench.NONE;

    public static void main(String[] args) {
        work();
        tell();
        tellBySuit();
        fire();
        fireAfterNinetyDays();
        fireBySuit();
        award();
        awardOnce();
        awardLatest();
        awardLong();
        pass();
        Check.close();
    }

    private static void work() {
        Check.promise("work");
        RelatorsBench bench = new RelatorsBench();
        Check.is("work", NONE, bench.work(7, 5, 999));
        Check.is("work in place of that", 5, bench.work(7, 0, 0));
        Check.is("work for the same", 0, bench.work(7, 0, 1));
        Check.is("tellers work apart", NONE, bench.work(0, 0, 1));
        Check.refuses("work teller -1", Check.INDEX, () -> bench.work(-1, 0, -1));
        Check.refuses("work teller 8", Check.INDEX, () -> bench.work(8, 0, 0));
        Check.refuses("work firm -1", Check.INDEX, () -> bench.work(0, -1, 0));
        Check.refuses("work firm 6", Check.INDEX, () -> bench.work(0, 6, 1000));
        Check.refuses("work wage -1", Check.ARGUMENT, () -> bench.work(0, 3, -1));
        Check.refuses("work wage 1000", Check.ARGUMENT, () -> bench.work(0, 3, 1000));
        Check.is("refused work is not taken", 0, bench.work(0, 1, 1));
        bench.fire(1, 0);
        Check.is("fired, for none", NONE, bench.work(0, 1, 1));
    }

    private static void tell() {
        Check.promise("tell");
        RelatorsBench bench = new RelatorsBench();
        bench.pass(4);
        Check.is("tell", 4, bench.tell(0, 7));
        bench.pass(1);
        Check.is("told already", 4, bench.tell(0, 7));
        Check.is("another firm", 5, bench.tell(5, 7));
        Check.is("another teller", 5, bench.tell(0, 0));
        Check.refuses("tell firm -1", Check.INDEX, () -> bench.tell(-1, 0));
        Check.refuses("tell firm 6", Check.INDEX, () -> bench.tell(6, 0));
        Check.refuses("tell teller -1", Check.INDEX, () -> bench.tell(0, -1));
        Check.refuses("tell teller 8", Check.INDEX, () -> bench.tell(0, 8));
    }

    private static void tellBySuit() {
        Check.promise("tell");
        RelatorsBench bench = Runs.suedScheme(RelatorsBench.BY_FACT);
        bench.learn(1, 0);
        bench.file(1, 0, 1);
        bench.pass(10);
        bench.choose(1, RelatorsBench.DISMISSED);
        bench.pass(90);
        Check.is("by a suit that is not sealed", 60, bench.tell(0, 0));
        Check.is("by a dismissed one", 10, bench.tell(0, 1));
        Check.is("another firm knows it not by that", 100, bench.tell(1, 0));
        Check.is("another teller", 100, bench.tell(0, 2));
        bench.learn(2, 0);
        bench.file(2, 0, 1);
        bench.file(0, 0, 1);
        Check.is("told ahead of the suit", 100, bench.tell(0, 2));
        bench.choose(3, RelatorsBench.JOINED);
        Check.is("by the earliest suit", 60, bench.tell(0, 0));
    }

    private static void fire() {
        Check.promise("fire");
        RelatorsBench bench = new RelatorsBench();
        Check.refuses("fire firm -1", Check.INDEX, () -> bench.fire(-1, 0));
        Check.refuses("fire firm 6", Check.INDEX, () -> bench.fire(6, 0));
        Check.refuses("fire teller -1", Check.INDEX, () -> bench.fire(0, -1));
        Check.refuses("fire teller 8", Check.INDEX, () -> bench.fire(0, 8));
        Check.refuses("fire who works for none", Check.STATE, () -> bench.fire(0, 0));
        bench.work(0, 1, 10);
        bench.tell(0, 0);
        Check.refuses("fire who works for another one", Check.STATE, () -> bench.fire(0, 0));
        Check.is("a firm that does not know", false, bench.fire(1, 0));
        Check.refuses("fire again", Check.STATE, () -> bench.fire(1, 0));
        bench.work(0, 0, 10);
        Check.is("on the day of telling", true, bench.fire(0, 0));
    }

    private static void fireAfterNinetyDays() {
        Check.promise("fire");
        RelatorsBench bench = new RelatorsBench();
        bench.tell(0, 0);
        bench.tell(0, 1);
        bench.work(0, 0, 10);
        bench.work(1, 0, 10);
        bench.pass(90);
        Check.is("ninety days after", true, bench.fire(0, 0));
        bench.pass(1);
        bench.tell(0, 1);
        Check.is("ninety-one days after", false, bench.fire(0, 1));
    }

    private static void fireBySuit() {
        Check.promise("fire");
        RelatorsBench bench = Runs.suedScheme(RelatorsBench.BY_FACT);
        bench.work(0, 0, 10);
        bench.pass(59);
        Check.is("while it is sealed", false, bench.fire(0, 0));
        bench.work(0, 0, 10);
        bench.pass(1);
        Check.is("as it is not sealed any more", true, bench.fire(0, 0));
        bench.work(0, 0, 10);
        bench.pass(90);
        Check.is("ninety days after that", true, bench.fire(0, 0));
        bench.work(0, 0, 10);
        bench.pass(1);
        bench.file(0, 0, 1);
        bench.choose(1, RelatorsBench.JOINED);
        Check.is("another suit makes it no later", false, bench.fire(0, 0));
    }

    private static void award() {
        Check.promise("award");
        RelatorsBench bench = new RelatorsBench();
        bench.fund(0, 1000);
        Check.refuses("award firm -1", Check.INDEX, () -> bench.award(-1, 0));
        Check.refuses("award firm 6", Check.INDEX, () -> bench.award(6, 0));
        Check.refuses("award teller -1", Check.INDEX, () -> bench.award(0, -1));
        Check.refuses("award teller 8", Check.INDEX, () -> bench.award(0, 8));
        Check.refuses("award without a firing", Check.STATE, () -> bench.award(0, 0));
        bench.tell(0, 0);
        bench.work(0, 0, 10);
        bench.fire(0, 0);
        bench.work(0, 1, 500);
        bench.pass(7);
        Check.refuses("award by another firm", Check.STATE, () -> bench.award(1, 0));
        Check.refuses("award of another teller", Check.STATE, () -> bench.award(0, 1));
        Check.is("the wage of seven days, twice", 140, bench.award(0, 0));
        Check.is("the firm paid", 860, bench.ofFirm(0, 0));
        Check.is("by awards", 140, bench.ofFirm(0, 3));
        Check.is("not by suits", 0, bench.ofFirm(0, 2));
        Check.is("the teller got it", 140, bench.got(0, 2));
        Check.is("the state has none of it", 0, bench.all(1));
    }

    private static void awardOnce() {
        Check.promise("award");
        RelatorsBench bench = new RelatorsBench();
        bench.fund(0, 30);
        bench.tell(0, 0);
        bench.work(0, 0, 10);
        bench.fire(0, 0);
        Check.is("no day since", 0, bench.award(0, 0));
        bench.pass(1);
        Check.refuses("once", Check.STATE, () -> bench.award(0, 0));
        bench.work(0, 0, 10);
        bench.fire(0, 0);
        bench.pass(2);
        Check.is("for the next firing, all that it has", 30, bench.award(0, 0));
        Check.refuses("once for that", Check.STATE, () -> bench.award(0, 0));
    }

    private static void awardLatest() {
        Check.promise("award");
        RelatorsBench bench = new RelatorsBench();
        bench.fund(0, 1000);
        bench.tell(0, 0);
        bench.work(0, 0, 10);
        bench.fire(0, 0);
        bench.pass(5);
        bench.work(0, 0, 20);
        bench.fire(0, 0);
        bench.pass(1);
        Check.is("for the latest firing", 40, bench.award(0, 0));
        bench.work(0, 0, 10);
        bench.fire(0, 0);
        bench.pass(90);
        bench.work(0, 0, 10);
        Check.is("for another cause", false, bench.fire(0, 0));
        Check.refuses("the latest is not for telling", Check.STATE, () -> bench.award(0, 0));
    }

    private static void awardLong() {
        Check.promise("award");
        RelatorsBench bench = new RelatorsBench();
        bench.fund(0, 1000000);
        for (int teller = 0; teller < 3; teller++) {
            bench.tell(0, teller);
            bench.work(teller, 0, 999);
            bench.fire(0, teller);
        }
        Runs.pass(bench, 399);
        Check.is("399 days", 797202, bench.award(0, 0));
        bench.fund(0, 797202);
        bench.pass(1);
        Check.is("400 days", 799200, bench.award(0, 1));
        bench.fund(0, 799200);
        Runs.pass(bench, 2600);
        Check.is("at most 400 days", 799200, bench.award(0, 2));
    }

    private static void pass() {
        Check.promise("pass");
        RelatorsBench bench = new RelatorsBench();
        Check.is("pass", 1, bench.pass(1));
        Check.is("pass the most", 301, bench.pass(300));
        Check.refuses("pass 0", Check.ARGUMENT, () -> bench.pass(0));
        Check.refuses("pass 301", Check.ARGUMENT, () -> bench.pass(301));
        Check.refuses("pass -1", Check.ARGUMENT, () -> bench.pass(-1));
        Runs.pass(bench, 2600);
        Check.refuses("pass above the last day", Check.STATE, () -> bench.pass(100));
        Check.is("a refused one lets none go by", 2901, bench.all(0));
        Check.is("pass to the last day", 3000, bench.pass(99));
        Check.refuses("pass the last day", Check.STATE, () -> bench.pass(1));
        Check.refuses("pass range ahead of state", Check.ARGUMENT, () -> bench.pass(301));
    }
}
