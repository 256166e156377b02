/** Promises 24 to 34: what is asked of suits, schemes, claims, tellers, firms and the whole. */
public final class AsksTest {
    private static final int NONE = RelatorsBench.NONE;
    private static final int JOINED = RelatorsBench.JOINED;
    private static final int DECLINED = RelatorsBench.DECLINED;
    private static final int DISMISSED = RelatorsBench.DISMISSED;

    public static void main(String[] args) {
        coversHalf();
        coversByAmendments();
        coversLaterScheme();
        coversWhenOver();
        barsInOrder();
        barsForThePublic();
        barsForThePublicByAmendments();
        first();
        firstByDay();
        firstWithoutDismissed();
        dueByGrounds();
        dueByRounding();
        dueByAge();
        dueBySchemes();
        plannersOfBarredSchemes();
        sees();
        ofSuit();
        ofClaim();
        got();
        ofFirm();
        sumsOfSeveral();
        all();
        readme();
        Check.close();
    }

    private static void coversHalf() {
        Check.promise("covers");
        RelatorsBench bench = new RelatorsBench();
        Runs.learnAll(bench, 0);
        bench.scheme(0, 0b1111, 0);
        bench.scheme(0, 0b1110, 0);
        bench.scheme(1, 0b1111, 0);
        bench.scheme(0, 0b10000, 0);
        bench.scheme(0, 65535, 0);
        bench.pass(5);
        bench.file(0, 0, 0b1010);
        bench.file(0, 0, 0b1000);
        bench.file(0, 0, 0b11111111);
        Check.is("two of four are half", 5, bench.covers(0, 0));
        Check.is("two of three", 5, bench.covers(0, 1));
        Check.is("another firm", NONE, bench.covers(0, 2));
        Check.is("none of one", NONE, bench.covers(0, 3));
        Check.is("two of sixteen", NONE, bench.covers(0, 4));
        Check.is("one of four", NONE, bench.covers(1, 0));
        Check.is("one of three", NONE, bench.covers(1, 1));
        Check.is("eight of sixteen", 5, bench.covers(2, 4));
        bench.pass(1);
        Check.is("the day stays", 5, bench.covers(0, 0));
    }

    private static void coversByAmendments() {
        Check.promise("covers");
        RelatorsBench bench = new RelatorsBench();
        Runs.learnAll(bench, 0);
        bench.scheme(0, 0b1111, 0);
        bench.scheme(0, 0b11110000, 0);
        bench.file(0, 0, 0b1);
        bench.pass(1);
        bench.amend(0, 0b10000);
        Check.is("not yet half", NONE, bench.covers(0, 1));
        bench.pass(1);
        bench.amend(0, 0b100010);
        Check.is("one was filed: it reaches back", 0, bench.covers(0, 0));
        Check.is("none was filed: as amended to half", 2, bench.covers(0, 1));
        bench.pass(1);
        bench.amend(0, 0b11000000);
        Check.is("later amendments move no day", 2, bench.covers(0, 1));
    }

    private static void coversLaterScheme() {
        Check.promise("covers");
        RelatorsBench bench = new RelatorsBench();
        Runs.learnAll(bench, 0);
        bench.pass(3);
        bench.file(0, 0, 0b1);
        bench.pass(4);
        bench.amend(0, 0b10);
        bench.pass(4);
        bench.amend(0, 0b100);
        bench.pass(4);
        bench.scheme(0, 0b11, 0);
        bench.scheme(0, 0b110, 0);
        bench.scheme(0, 0b11100, 0);
        bench.scheme(0, 0b1100, 0);
        Check.is("told later, filed", 3, bench.covers(0, 0));
        Check.is("told later, amended first", 7, bench.covers(0, 1));
        Check.is("told later, one of three", NONE, bench.covers(0, 2));
        Check.is("told later, amended last", 11, bench.covers(0, 3));
        isFirst("told later", bench, 3, 0);
    }

    private static void coversWhenOver() {
        Check.promise("covers");
        RelatorsBench bench = Runs.suedScheme(0);
        bench.choose(0, DISMISSED);
        Check.is("a dismissed one covers", 0, bench.covers(0, 0));
        bench.file(0, 0, 1);
        bench.choose(1, JOINED);
        bench.judge(1);
        bench.scheme(0, 3, 0);
        Check.is("a won one covers", 0, bench.covers(1, 1));
        isFirst("a won one", bench, 1, 1);
        Check.promise("bars");
        Check.is("a scheme told after its win is not barred", 0, bench.bars(1, 1));
    }

    private static void barsInOrder() {
        Check.promise("bars");
        RelatorsBench bench = Runs.suedScheme(0);
        bench.learn(1, 0);
        bench.learn(1, 1);
        bench.publish(0);
        bench.file(1, 0, 1);
        bench.file(1, 0, 2);
        Check.is("not covered ahead of the public", 1, bench.bars(2, 0));
        Check.is("not first ahead of the public", 2, bench.bars(1, 0));
        Check.is("public", 3, bench.bars(0, 0));
        bench.choose(0, JOINED);
        Check.is("joined", 0, bench.bars(0, 0));
        bench.judge(0);
        Check.is("won as joined", 0, bench.bars(0, 0));
        Check.is("a won one is still first", 2, bench.bars(1, 0));
        bench.choose(1, DISMISSED);
        Check.is("dismissed, not first", 2, bench.bars(1, 0));
    }

    private static void barsForThePublic() {
        Check.promise("bars");
        RelatorsBench bench = new RelatorsBench();
        Runs.learnAll(bench, 0);
        for (int i = 0; i < 4; i++) {
            bench.scheme(i, 0b1110, 0);
            bench.scheme(i, 0b11100000, 0);
        }
        bench.publish(1);
        bench.publish(5);
        bench.file(0, 0, 0b100110);
        Check.is("one of three is public", 0, bench.bars(0, 0));
        bench.pass(1);
        bench.publish(2);
        bench.file(0, 1, 0b1100110);
        Check.is("published later: the suit's day counts", 0, bench.bars(0, 0));
        Check.is("two of three are public", 3, bench.bars(1, 2));
        Check.is("one of three is public, as covered", 0, bench.bars(1, 3));
        bench.pass(1);
        bench.publish(6);
        bench.publish(7);
        Check.is("published after that", 0, bench.bars(1, 3));
        bench.file(0, 2, 0b11101110);
        Check.is("it has the one that is not public", 0, bench.bars(2, 4));
        Check.is("all are public, there is no other", 3, bench.bars(2, 5));
        bench.choose(2, DECLINED);
        Check.is("declined is not joined", 3, bench.bars(2, 5));
        bench.choose(2, JOINED);
        Check.is("joined after that", 0, bench.bars(2, 5));
        bench.publish(3);
        Check.is("an other one that is public now", 0, bench.bars(2, 4));
    }

    private static void barsForThePublicByAmendments() {
        Check.promise("bars");
        RelatorsBench bench = new RelatorsBench();
        Runs.learnAll(bench, 0);
        bench.scheme(0, 0b1111, 0);
        bench.file(0, 0, 0b1);
        bench.pass(1);
        bench.publish(0);
        bench.publish(1);
        bench.amend(0, 0b10);
        Check.is("it reaches back ahead of the public", 0, bench.bars(0, 0));
        bench.file(0, 1, 0b10000);
        bench.scheme(1, 0b1111, 0);
        bench.amend(1, 0b11);
        Check.is("it does not reach back", 3, bench.bars(1, 1));
        bench.pass(1);
        bench.publish(2);
        bench.amend(1, 0b100);
        Check.is("amended by another one", 0, bench.bars(1, 1));
    }

    private static void isFirst(String what, RelatorsBench bench, int scheme, int suit) {
        Check.promise("first");
        Check.is(what, suit, bench.first(scheme));
        Check.promise("firstAnew");
        Check.is(what, suit, bench.firstAnew(scheme));
    }

    private static void first() {
        Check.promise("first");
        RelatorsBench bench = new RelatorsBench();
        Runs.learnAll(bench, 0);
        bench.scheme(0, 0b1111, 0);
        isFirst("without suits", bench, 0, NONE);
        bench.file(0, 0, 0b1000);
        bench.file(0, 1, 0b1111);
        isFirst("without a covering one", bench, 0, NONE);
        bench.pass(1);
        bench.file(0, 0, 0b10000);
        bench.file(0, 0, 0b10000);
        bench.file(0, 0, 0b11);
        bench.amend(3, 0b11);
        isFirst("the lowest of the day", bench, 0, 3);
        bench.amend(2, 0b11);
        isFirst("a lower one of that day", bench, 0, 2);
        bench.pass(1);
        bench.file(0, 0, 0b1111);
        isFirst("a later one with all", bench, 0, 2);
        bench.amend(0, 0b100);
        isFirst("one that reaches back", bench, 0, 0);
    }

    private static void firstByDay() {
        Check.promise("first");
        RelatorsBench bench = new RelatorsBench();
        Runs.learnAll(bench, 0);
        bench.scheme(0, 0b1, 0);
        bench.file(0, 0, 0b10);
        bench.file(0, 0, 0b10);
        bench.pass(1);
        bench.file(0, 0, 0b1);
        bench.pass(1);
        bench.amend(1, 0b1);
        bench.pass(1);
        bench.amend(0, 0b1);
        bench.file(0, 0, 0b1);
        isFirst("the earliest, not the lowest", bench, 0, 2);
        bench.choose(2, DISMISSED);
        isFirst("the next day, not the lowest", bench, 0, 1);
        bench.choose(1, DISMISSED);
        isFirst("the lowest of the last day", bench, 0, 0);
    }

    private static void firstWithoutDismissed() {
        Check.promise("first");
        RelatorsBench bench = new RelatorsBench();
        Runs.learnAll(bench, 0);
        bench.scheme(0, 0b1, 0);
        bench.file(0, 0, 0b1);
        bench.pass(1);
        bench.file(0, 0, 0b1);
        bench.choose(0, DISMISSED);
        isFirst("the next one", bench, 0, 1);
        bench.choose(1, DECLINED);
        bench.judge(1);
        bench.file(0, 0, 0b1);
        isFirst("a won one", bench, 0, 1);
        bench.choose(2, DISMISSED);
        isFirst("dismissed ones around it", bench, 0, 1);
        RelatorsBench lone = Runs.suedScheme(0);
        lone.choose(0, DISMISSED);
        isFirst("a dismissed one alone", lone, 0, NONE);
    }

    private static void dueByGrounds() {
        Check.promise("due");
        int[] penalties = {100, 50, 20};
        for (int ground = RelatorsBench.BY_FACT; ground <= RelatorsBench.BY_KEEPING; ground++) {
            RelatorsBench bench = Runs.suedScheme(ground);
            bench.claim(0, 7);
            bench.claim(0, 9999);
            bench.sample(0, 1, 1);
            Check.is("due by ground " + ground, 10006 * 3 + 2 * penalties[ground], bench.due(0));
            bench.admit(0);
            Check.is("due as admitted " + ground, 10006 * 2 + 2 * penalties[ground], bench.due(0));
        }
    }

    private static void dueByRounding() {
        Check.promise("due");
        RelatorsBench bench = Runs.suedScheme(RelatorsBench.BY_WORD);
        bench.claim(0, 5);
        bench.claim(0, 5);
        bench.sample(0, 3, 1);
        Check.is("rounded together and ahead of the times", 9, bench.due(0));
        bench.claim(0, 5);
        Check.is("the many are rounded down", 15 + 50, bench.due(0));
        RelatorsBench full = Runs.suedScheme(RelatorsBench.BY_FACT);
        for (int i = 0; i < 40; i++) {
            full.claim(0, 9999);
        }
        full.sample(0, 100, 100);
        Check.is("the most that is due", 399960 * 3 + 4000, full.due(0));
    }

    private static void dueByAge() {
        Check.promise("due");
        RelatorsBench bench = new RelatorsBench();
        bench.learn(0, 0);
        bench.learn(0, 1);
        bench.scheme(0, 0b1, RelatorsBench.BY_KEEPING);
        bench.scheme(0, 0b10, RelatorsBench.BY_KEEPING);
        bench.sample(0, 1, 1);
        bench.sample(1, 1, 1);
        bench.claim(0, 1);
        bench.claim(1, 100);
        bench.pass(1);
        bench.claim(0, 10);
        bench.claim(1, 1000);
        Runs.pass(bench, 600);
        bench.file(0, 0, 0b1);
        Check.is("600 days older, not 601", 30 + 20, bench.due(0));
        bench.claim(0, 100);
        bench.pass(1);
        bench.amend(0, 0b10);
        Check.is("602 and 601 days older than the amendment", 330 + 40, bench.due(0));
        bench.claim(1, 2);
        Check.is("claims after the suit count", 330 + 40 + 6 + 20, bench.due(0));
    }

    private static void dueBySchemes() {
        Check.promise("due");
        RelatorsBench bench = Runs.suedClaim(10000, 10);
        bench.scheme(0, 0b1, RelatorsBench.BY_FACT);
        bench.claim(1, 20);
        bench.sample(1, 1, 1);
        bench.learn(1, 0);
        bench.file(1, 0, 0b1);
        Check.is("both schemes", 50 + 160, bench.due(0));
        Check.is("barred from both", 0, bench.due(1));
        bench.choose(0, DECLINED);
        Check.is("due as declined", 210, bench.due(0));
        bench.choose(0, DISMISSED);
        Check.is("due as dismissed", 0, bench.due(0));
        Check.is("the next one is first", 210, bench.due(1));
        bench.choose(1, JOINED);
        bench.judge(1);
        Check.is("due as won", 0, bench.due(1));
        Check.is("both were paid by it", 210, bench.ofSuit(1, 7));
        Check.is("claims of both are paid for", 2, bench.ofClaim(0, 3) + bench.ofClaim(1, 3));
        bench.claim(0, 10);
        Check.is("due as won, with a new claim", 0, bench.due(1));
    }

    private static void plannersOfBarredSchemes() {
        Check.promise("ofSuit");
        RelatorsBench bench = Runs.suedScheme(0);
        bench.scheme(0, 0b10, 0);
        bench.scheme(1, 0b1, 0);
        bench.choose(0, DECLINED);
        bench.plan(0, 1);
        bench.plan(0, 2);
        Check.is("planned what it does not cover", 25, bench.ofSuit(0, 9));
        bench.learn(0, 1);
        bench.amend(0, 0b10);
        Check.is("planned what it covers", 12, bench.ofSuit(0, 9));
        bench.choose(0, DISMISSED);
        Check.is("no hundredths as dismissed", 0, bench.ofSuit(0, 9));
    }

    private static void sees() {
        Check.promise("sees");
        RelatorsBench bench = Runs.suedScheme(0);
        bench.learn(7, 0);
        bench.pass(59);
        bench.file(7, 0, 1);
        Check.is("one of their own", true, bench.sees(0, 0));
        Check.is("a sealed one of another", false, bench.sees(1, 0));
        Check.is("a sealed one of another teller with one", false, bench.sees(7, 0));
        bench.pass(1);
        Check.is("not sealed any more", true, bench.sees(1, 0));
        Check.is("the other is sealed", false, bench.sees(0, 1));
        Check.is("for all but its teller", true, bench.sees(7, 1));
        bench.choose(1, DISMISSED);
        Check.is("as dismissed", true, bench.sees(0, 1));
        Check.refuses("sees teller -1", Check.INDEX, () -> bench.sees(-1, 0));
        Check.refuses("sees teller 8", Check.INDEX, () -> bench.sees(8, 0));
        Check.refuses("sees suit -1", Check.INDEX, () -> bench.sees(0, -1));
        Check.refuses("sees suit 2", Check.INDEX, () -> bench.sees(0, 2));
    }

    private static void areAll(String what, int[] want, java.util.function.IntUnaryOperator ask) {
        for (int i = 0; i < want.length; i++) {
            Check.is(what + " " + i, want[i], ask.applyAsInt(i));
        }
        Check.refuses(what + " -1", Check.INDEX, () -> ask.applyAsInt(-1));
        Check.refuses(what + " " + want.length, Check.INDEX, () -> ask.applyAsInt(want.length));
        Check.refuses(what + " least", Check.INDEX, () -> ask.applyAsInt(Integer.MIN_VALUE));
        Check.refuses(what + " most", Check.INDEX, () -> ask.applyAsInt(Integer.MAX_VALUE));
    }

    /** The teller 3 against the firm 2, filed on day 4, joined on day 9, judged on day 10. */
    private static RelatorsBench wonSuit() {
        RelatorsBench bench = new RelatorsBench();
        bench.fund(2, 5000);
        bench.scheme(2, 0b110, RelatorsBench.BY_WORD);
        bench.sample(0, 2, 1);
        bench.claim(0, 1000);
        bench.learn(3, 1);
        bench.learn(3, 5);
        bench.deal(3, 6, 30);
        bench.pass(4);
        bench.claim(0, 501);
        bench.file(3, 2, 0b10);
        bench.amend(0, 0b100000);
        bench.help(0, 6);
        bench.pass(5);
        bench.choose(0, JOINED);
        bench.pass(1);
        bench.judge(0);
        return bench;
    }

    private static void ofSuit() {
        Check.promise("ofSuit");
        RelatorsBench bench = wonSuit();
        areAll("of a won suit", new int[] {3, 2, 0b100010, 4, RelatorsBench.WON, 9, 6, 2300, 483, 21},
                what -> bench.ofSuit(0, what));
        bench.file(3, 0, 0b10);
        areAll("of an open suit", new int[] {3, 0, 0b10, 10, RelatorsBench.OPEN, 70, 0, 0, 0, 0},
                what -> bench.ofSuit(1, what));
    }

    private static void ofClaim() {
        Check.promise("ofClaim");
        RelatorsBench bench = wonSuit();
        bench.scheme(1, 1, 0);
        bench.claim(1, 9999);
        areAll("of a paid claim", new int[] {0, 501, 4, 0}, what -> bench.ofClaim(1, what));
        areAll("of another claim", new int[] {1, 9999, 10, NONE}, what -> bench.ofClaim(2, what));
    }

    private static void got() {
        Check.promise("got");
        RelatorsBench bench = wonSuit();
        bench.work(3, 2, 100);
        bench.fire(2, 3);
        bench.pass(2);
        bench.award(2, 3);
        areAll("the teller got", new int[] {483 - 144, 0, 400}, what -> bench.got(3, what));
        areAll("the other got", new int[] {0, 144, 0}, what -> bench.got(6, what));
    }

    private static void ofFirm() {
        Check.promise("ofFirm");
        RelatorsBench bench = wonSuit();
        bench.work(3, 2, 100);
        bench.fire(2, 3);
        bench.pass(2);
        bench.award(2, 3);
        bench.fund(2, 11);
        areAll("of the firm", new int[] {2311, 5011, 2300, 400}, what -> bench.ofFirm(2, what));
        areAll("of another firm", new int[] {0, 0, 0, 0}, what -> bench.ofFirm(5, what));
    }

    private static void sumsOfSeveral() {
        Check.promise("got");
        RelatorsBench bench = wonSuit();
        for (int i = 1; i <= 2; i++) {
            bench.file(3, 2, 0b10);
            bench.choose(i, JOINED);
            bench.settle(i, 100 * i);
        }
        for (int i = 0; i < 2; i++) {
            bench.tell(2, 3);
            bench.work(3, 2, 10);
            bench.fire(2, 3);
            bench.pass(1);
            bench.award(2, 3);
        }
        int ownOfThree = 483 - 144 + 15 - 4 + 30 - 9;
        areAll("the teller got by several", new int[] {ownOfThree, 0, 40}, what -> bench.got(3, what));
        areAll("the other got by several", new int[] {0, 144 + 4 + 9, 0}, what -> bench.got(6, what));
        Check.promise("ofFirm");
        areAll("the firm by several", new int[] {2360, 5000, 2600, 40}, what -> bench.ofFirm(2, what));
        Check.promise("all");
        Check.is("the state by several", 1817 + 85 + 170, bench.all(1));
    }

    private static void all() {
        Check.promise("all");
        RelatorsBench bench = wonSuit();
        bench.publish(0);
        bench.publish(9);
        bench.publish(15);
        bench.file(3, 0, 0b10);
        bench.file(3, 1, 0b10);
        areAll("the whole", new int[] {10, 1817, 3, 2}, bench::all);
        bench.choose(1, DECLINED);
        Check.is("one sealed suit", 1, bench.all(3));
        bench.pass(60);
        Check.is("no sealed suit", 0, bench.all(3));
    }

    /** The example in README.md. */
    private static void readme() {
        Check.promise("judge");
        RelatorsBench bench = new RelatorsBench();
        bench.fund(0, 100000);
        int scheme = bench.scheme(0, 0b11, RelatorsBench.BY_FACT);
        bench.claim(scheme, 1000);
        bench.sample(scheme, 10, 5);
        bench.learn(3, 0);
        int suit = bench.file(3, 0, 0b01);
        bench.choose(suit, JOINED);
        Check.is("README: judge", 1500, bench.judge(suit));
        Check.is("README: got", 225, bench.got(3, 0));
    }
}
