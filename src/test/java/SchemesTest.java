/** Promises 1 to 10: a new object, firms, schemes, claims, samples, and what is known. */
public final class SchemesTest {
    public static void main(String[] args) {
        aNewObject();
        fund();
        scheme();
        claim();
        sample();
        learn();
        publish();
        plan();
        know();
        admit();
        admitRefused();
        Check.close();
    }

    private static void aNewObject() {
        Check.promise("A new object");
        RelatorsBench bench = new RelatorsBench();
        for (int what = 0; what < 4; what++) {
            Check.is("new: all " + what, 0, bench.all(what));
            for (int firm = 0; firm < 6; firm++) {
                Check.is("new: ofFirm " + firm + " " + what, 0, bench.ofFirm(firm, what));
            }
        }
        for (int teller = 0; teller < 8; teller++) {
            for (int what = 0; what < 3; what++) {
                Check.is("new: got " + teller + " " + what, 0, bench.got(teller, what));
            }
            Check.is("new: works for", RelatorsBench.NONE, bench.work(teller, 0, 1));
        }
        Check.refuses("new: first", Check.INDEX, () -> bench.first(0));
        Check.refuses("new: due", Check.INDEX, () -> bench.due(0));
        Check.refuses("new: ofClaim", Check.INDEX, () -> bench.ofClaim(0, 0));
        Check.is("new: the first scheme", 0, bench.scheme(0, 1, 0));
        Check.is("new: the first claim", 0, bench.claim(0, 1));
        RelatorsBench other = new RelatorsBench();
        Check.refuses("objects share nothing", Check.INDEX, () -> other.first(0));
        Check.is("objects share no worker", RelatorsBench.NONE, other.work(0, 0, 1));
    }

    private static void fund() {
        Check.promise("fund");
        RelatorsBench bench = new RelatorsBench();
        Check.is("fund least", 1, bench.fund(0, 1));
        Check.is("fund most", 1000001, bench.fund(0, 1000000));
        Check.is("fund the last firm", 7, bench.fund(5, 7));
        Check.is("fund keeps firms apart", 1000001, bench.ofFirm(0, 0));
        Check.refuses("fund firm -1", Check.INDEX, () -> bench.fund(-1, 0));
        Check.refuses("fund firm 6", Check.INDEX, () -> bench.fund(6, 1));
        Check.refuses("fund 0", Check.ARGUMENT, () -> bench.fund(0, 0));
        Check.refuses("fund -1", Check.ARGUMENT, () -> bench.fund(0, Integer.MIN_VALUE));
        Check.refuses("fund too much", Check.ARGUMENT, () -> bench.fund(0, 1000001));
        for (int i = 0; i < 98; i++) {
            bench.fund(0, 1000000);
        }
        Check.refuses("fund above the most", Check.STATE, () -> bench.fund(0, 1000000));
        Check.refuses("fund range ahead of state", Check.ARGUMENT, () -> bench.fund(0, 1000001));
        Check.is("a refused gift gives nothing", 99000001, bench.ofFirm(0, 0));
        Check.is("a refused gift is not told", 99000001, bench.ofFirm(0, 1));
        Check.is("fund to the most", 100000000, bench.fund(0, 999999));
        Check.refuses("fund one above the most", Check.STATE, () -> bench.fund(0, 1));
    }

    private static void scheme() {
        Check.promise("scheme");
        RelatorsBench bench = new RelatorsBench();
        Check.refuses("scheme firm -1", Check.INDEX, () -> bench.scheme(-1, 0, 3));
        Check.refuses("scheme firm 6", Check.INDEX, () -> bench.scheme(6, 1, 0));
        Check.refuses("scheme facts 0", Check.ARGUMENT, () -> bench.scheme(0, 0, 0));
        Check.refuses("scheme facts 65536", Check.ARGUMENT, () -> bench.scheme(0, 65536, 0));
        Check.refuses("scheme facts -1", Check.ARGUMENT, () -> bench.scheme(0, -1, 0));
        Check.refuses("scheme ground -1", Check.ARGUMENT, () -> bench.scheme(0, 1, -1));
        Check.refuses("scheme ground 3", Check.ARGUMENT, () -> bench.scheme(0, 1, 3));
        for (int i = 0; i < 8; i++) {
            Check.is("scheme " + i, i, bench.scheme(i % 6, i == 0 ? 65535 : i, i % 3));
        }
        Check.refuses("a ninth scheme", Check.STATE, () -> bench.scheme(0, 1, 0));
        Check.refuses("scheme range ahead of state", Check.ARGUMENT, () -> bench.scheme(0, 1, 3));
        Check.refuses("scheme firm ahead of state", Check.INDEX, () -> bench.scheme(6, 1, 0));
        Check.is("eight schemes", RelatorsBench.NONE, bench.first(7));
        Check.refuses("no ninth scheme", Check.INDEX, () -> bench.first(8));
    }

    private static void claim() {
        Check.promise("claim");
        RelatorsBench bench = new RelatorsBench();
        Check.refuses("claim without a scheme", Check.INDEX, () -> bench.claim(0, 0));
        bench.scheme(0, 1, 0);
        bench.scheme(1, 1, 0);
        Check.refuses("claim scheme -1", Check.INDEX, () -> bench.claim(-1, 1));
        Check.refuses("claim scheme 2", Check.INDEX, () -> bench.claim(2, 0));
        Check.refuses("claim 0", Check.ARGUMENT, () -> bench.claim(0, 0));
        Check.refuses("claim 10000", Check.ARGUMENT, () -> bench.claim(0, 10000));
        for (int i = 0; i < 40; i++) {
            Check.is("claim " + i, i, bench.claim(i % 2, i == 0 ? 9999 : i));
            if (i == 20) {
                bench.pass(7);
            }
        }
        Check.refuses("claim 41", Check.STATE, () -> bench.claim(0, 1));
        Check.refuses("claim range ahead of state", Check.ARGUMENT, () -> bench.claim(0, 0));
        Check.refuses("claim scheme ahead of state", Check.INDEX, () -> bench.claim(2, 1));
        Check.is("claim is made today", 0, bench.ofClaim(20, 2));
        Check.is("claim is made later", 7, bench.ofClaim(21, 2));
    }

    private static void sample() {
        Check.promise("sample");
        RelatorsBench bench = Runs.suedScheme(RelatorsBench.BY_KEEPING);
        bench.claim(0, 100);
        Check.is("no sample: none is false", 0, bench.due(0));
        bench.sample(0, 1, 1);
        Check.is("sample 1 of 1", 320, bench.due(0));
        bench.sample(0, 100, 33);
        Check.is("sample in place of the one before", 99, bench.due(0));
        bench.sample(0, 100, 0);
        Check.is("sample without a false one", 0, bench.due(0));
        bench.sample(0, 100, 100);
        Check.is("sample of all false", 320, bench.due(0));
        Check.refuses("sample scheme 1", Check.INDEX, () -> bench.sample(1, 0, 0));
        Check.refuses("sample scheme -1", Check.INDEX, () -> bench.sample(-1, 1, 1));
        Check.refuses("sample looked 0", Check.ARGUMENT, () -> bench.sample(0, 0, 0));
        Check.refuses("sample looked 101", Check.ARGUMENT, () -> bench.sample(0, 101, 1));
        Check.refuses("sample wrong -1", Check.ARGUMENT, () -> bench.sample(0, 10, -1));
        Check.refuses("sample wrong above looked", Check.ARGUMENT, () -> bench.sample(0, 10, 11));
        Check.is("a refused sample stays away", 320, bench.due(0));
    }

    private static void learn() {
        Check.promise("learn");
        RelatorsBench bench = new RelatorsBench();
        Check.is("learn one", 1, bench.learn(7, 15));
        Check.is("learn it again", 1, bench.learn(7, 15));
        Check.is("learn another", 2, bench.learn(7, 0));
        Check.is("tellers learn apart", 1, bench.learn(0, 3));
        Check.refuses("learn teller -1", Check.INDEX, () -> bench.learn(-1, 0));
        Check.refuses("learn teller 8", Check.INDEX, () -> bench.learn(8, 0));
        Check.refuses("learn fact -1", Check.INDEX, () -> bench.learn(0, -1));
        Check.refuses("learn fact 16", Check.INDEX, () -> bench.learn(0, 16));
        Check.is("refused facts are not learned", 2, bench.learn(0, 4));
        for (int fact = 0; fact < 16; fact++) {
            bench.learn(1, fact);
        }
        Check.is("learn all", 16, bench.learn(1, 0));
    }

    private static void publish() {
        Check.promise("publish");
        RelatorsBench bench = Runs.suedScheme(RelatorsBench.BY_FACT);
        Check.is("a private scheme does not bar", 0, bench.bars(0, 0));
        bench.pass(1);
        Check.is("publish", 1, bench.publish(0));
        Check.is("publish again", 1, bench.publish(0));
        Check.is("publish another", 2, bench.publish(15));
        Check.is("published after the suit", 0, bench.bars(0, 0));
        bench.choose(0, RelatorsBench.DISMISSED);
        bench.pass(1);
        bench.publish(0);
        bench.learn(1, 0);
        bench.file(1, 0, 1);
        Check.is("public since the first day of that", 3, bench.bars(1, 0));
        Check.refuses("publish -1", Check.INDEX, () -> bench.publish(-1));
        Check.refuses("publish 16", Check.INDEX, () -> bench.publish(16));
        Check.is("refused facts are not public", 2, bench.all(2));
    }

    private static void plan() {
        Check.promise("plan");
        RelatorsBench bench = Runs.suedScheme(RelatorsBench.BY_FACT);
        bench.choose(0, RelatorsBench.JOINED);
        Check.is("another one planned", false, bench.plan(1, 0));
        Check.is("that cuts none of the teller's", 15, bench.ofSuit(0, 9));
        Check.is("planned by the teller", false, bench.plan(0, 0));
        Check.is("told again", true, bench.plan(0, 0));
        Check.is("the last teller", false, bench.plan(7, 0));
        Check.is("and again", true, bench.plan(7, 0));
        Check.is("a planner is cut", 7, bench.ofSuit(0, 9));
        Check.refuses("plan teller -1", Check.INDEX, () -> bench.plan(-1, 0));
        Check.refuses("plan teller 8", Check.INDEX, () -> bench.plan(8, 0));
        Check.refuses("plan scheme -1", Check.INDEX, () -> bench.plan(0, -1));
        Check.refuses("plan scheme 1", Check.INDEX, () -> bench.plan(0, 1));
        bench.scheme(0, 2, 0);
        Check.is("schemes are planned apart", false, bench.plan(0, 1));
    }

    private static void know() {
        Check.promise("know");
        RelatorsBench bench = Runs.suedScheme(RelatorsBench.BY_KEEPING);
        bench.sample(0, 1, 1);
        bench.claim(0, 100);
        bench.pass(1);
        bench.claim(0, 1000);
        Check.is("ahead of knowing", 3340, bench.due(0));
        Check.is("know", false, bench.know(0));
        Check.is("claims of that day do not count", 320, bench.due(0));
        bench.pass(1);
        Check.is("know again", true, bench.know(0));
        bench.claim(0, 2000);
        Check.is("claims later do not count, the first day stays", 320, bench.due(0));
        Check.refuses("know -1", Check.INDEX, () -> bench.know(-1));
        Check.refuses("know 1", Check.INDEX, () -> bench.know(1));
        bench.scheme(0, 2, 0);
        Check.is("schemes are known apart", false, bench.know(1));
    }

    private static void admit() {
        Check.promise("admit");
        RelatorsBench bench = Runs.suedScheme(RelatorsBench.BY_WORD);
        bench.sample(0, 1, 1);
        bench.claim(0, 100);
        Check.is("three times", 350, bench.due(0));
        Check.is("admit while the suit is sealed", false, bench.admit(0));
        Check.is("two times", 250, bench.due(0));
        Check.is("admit again", true, bench.admit(0));
        Check.refuses("admit -1", Check.INDEX, () -> bench.admit(-1));
        Check.refuses("admit 1", Check.INDEX, () -> bench.admit(1));
    }

    private static void admitRefused() {
        Check.promise("admit");
        RelatorsBench bench = Runs.suedScheme(RelatorsBench.BY_WORD);
        bench.scheme(0, 2, 0);
        bench.scheme(1, 1, 0);
        bench.pass(59);
        Check.is("sealed on its sixtieth day", false, bench.admit(0));
        bench.pass(1);
        Check.refuses("admit in the open", Check.STATE, () -> bench.admit(0));
        Check.is("a scheme that it does not cover", false, bench.admit(1));
        Check.is("a scheme of another firm", false, bench.admit(2));
        bench.choose(0, RelatorsBench.DISMISSED);
        Check.is("dismissed", true, bench.admit(0));
        bench.file(0, 0, 1);
        bench.choose(1, RelatorsBench.DECLINED);
        Check.refuses("admit as declined", Check.STATE, () -> bench.admit(0));
        bench.judge(1);
        Check.refuses("admit as won", Check.STATE, () -> bench.admit(0));
    }
}
