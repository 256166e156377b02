/**
 * Rules told apart from ones that are near to them: what is told of one scheme, suit, teller or firm is not of another,
 * a bar is not only that of not covering, and the day of covering is neither that of filing nor today.
 */
public final class ApartTest {
    private static final int NONE = RelatorsBench.NONE;
    private static final int BY_FACT = RelatorsBench.BY_FACT;
    private static final int BY_KEEPING = RelatorsBench.BY_KEEPING;
    private static final int JOINED = RelatorsBench.JOINED;
    private static final int DECLINED = RelatorsBench.DECLINED;
    private static final int DISMISSED = RelatorsBench.DISMISSED;

    public static void main(String[] args) {
        samplesOfTwoSchemes();
        whatIsToldOfTwoSchemes();
        helpInTwoSuits();
        sealsOfTwoSuits();
        joinedOfTwoSuits();
        factsOfTwoSuits();
        factsOfTwoTellers();
        mostOfAll();
        planOfABarredScheme();
        planOfTwoSchemes();
        publishedTwice();
        publicWhenAmended();
        publicAfterFiling();
        oldWhenAmended();
        coveredByAnother();
        coveredInVain();
        paidForByAnother();
        settledForNothing();
        settledByThePoor();
        wagesOfTwoTellers();
        workedOnForAnotherWage();
        toldOfTwoTellers();
        awardsOfTwoTellers();
        rehired();
        Check.close();
    }

    private static void samplesOfTwoSchemes() {
        Check.promise("sample");
        RelatorsBench bench = Runs.withSchemes(2);
        bench.file(0, 0, 0b11);
        bench.claim(0, 1000);
        bench.claim(1, 10);
        bench.sample(0, 2, 1);
        Check.is("of the first scheme alone", 1500, bench.due(0));
        bench.sample(1, 1, 1);
        Check.is("of both", 1500 + 130, bench.due(0));
        bench.sample(1, 1, 0);
        Check.is("of the second, in place of the one before", 1500, bench.due(0));
    }

    private static void whatIsToldOfTwoSchemes() {
        RelatorsBench bench = Runs.withSchemes(2);
        bench.file(0, 0, 0b11);
        for (int scheme = 0; scheme < 2; scheme++) {
            bench.claim(scheme, 1000);
            bench.sample(scheme, 1, 1);
        }
        Check.promise("admit");
        Check.is("the first", false, bench.admit(0));
        Check.is("of the first alone", 2100 + 3100, bench.due(0));
        Check.is("the second was not", false, bench.admit(1));
        Check.is("of both", 2100 + 2100, bench.due(0));
        Check.promise("know");
        Check.is("the first", false, bench.know(0));
        Check.is("of the first alone", 2100, bench.due(0));
        Check.is("the second was not", false, bench.know(1));
        Check.is("of both", 0, bench.due(0));
        Check.promise("plan");
        Check.is("the second", false, bench.plan(1, 1));
        Check.is("the first was not, by that teller", false, bench.plan(1, 0));
        Check.is("the second was not, by another teller", false, bench.plan(0, 1));
        Check.is("the second was, by both", true, bench.plan(1, 1) && bench.plan(0, 1));
    }

    private static void helpInTwoSuits() {
        Check.promise("help");
        RelatorsBench bench = Runs.withJoined(2);
        Check.is("in the first", 0, bench.help(0, 7));
        Check.is("the help in the second", 0, bench.ofSuit(1, 6));
        Check.is("the hundredths of the second", 15, bench.ofSuit(1, 9));
        Check.is("in the second", 0, bench.help(1, 3));
        Check.is("the help in the first", 7, bench.ofSuit(0, 6));
        Check.is("the hundredths of the first", 22, bench.ofSuit(0, 9));
    }

    private static void sealsOfTwoSuits() {
        RelatorsBench bench = Runs.withSuits(2);
        Check.promise("extend");
        for (int i = 1; i <= 4; i++) {
            Check.is("the first, " + i + " times", 60 + 30 * i, bench.extend(0));
            Check.is("the end of the second", 60, bench.ofSuit(1, 5));
        }
        Check.refuses("the first, once more", Check.STATE, () -> bench.extend(0));
        Check.is("the second", 90, bench.extend(1));
        Check.is("the end of the first", 180, bench.ofSuit(0, 5));
        Check.promise("choose");
        bench.pass(1);
        bench.choose(1, DECLINED);
        Check.is("the end of the second", 1, bench.ofSuit(1, 5));
        Check.is("the end of the first", 180, bench.ofSuit(0, 5));
        Check.is("what the first is", RelatorsBench.OPEN, bench.ofSuit(0, 4));
        Check.is("one is sealed", 1, bench.all(3));
    }

    private static void joinedOfTwoSuits() {
        Check.promise("bars");
        RelatorsBench bench = Runs.withSchemes(2);
        bench.publish(0);
        bench.publish(1);
        bench.file(0, 0, 0b01);
        bench.file(0, 0, 0b10);
        bench.choose(1, JOINED);
        Check.is("the one that was joined", 0, bench.bars(1, 1));
        Check.is("one of the same teller and firm that was not", 3, bench.bars(0, 0));
        bench.choose(0, JOINED);
        Check.is("both were", 0, bench.bars(0, 0));
    }

    private static void factsOfTwoSuits() {
        Check.promise("amend");
        RelatorsBench bench = Runs.withSuits(2);
        Check.is("the second", 2, bench.amend(1, 0b10));
        Check.is("the facts of the first", 0b1, bench.ofSuit(0, 2));
        Check.is("the first", 3, bench.amend(0, 0b1100));
        Check.is("the facts of the second", 0b11, bench.ofSuit(1, 2));
    }

    private static void factsOfTwoTellers() {
        Check.promise("learn");
        RelatorsBench bench = new RelatorsBench();
        Check.is("the first teller", 1, bench.learn(0, 3));
        Check.is("the second one", 1, bench.learn(1, 4));
        Check.promise("file");
        Check.refuses("by what another knows", Check.STATE, () -> bench.file(0, 0, 0b10000));
        Check.is("by what the teller knows", 0, bench.file(0, 0, 0b1000));
        Check.promise("amend");
        Check.refuses("by what another knows", Check.STATE, () -> bench.amend(0, 0b10000));
        Check.promise("publish");
        bench.publish(4);
        Check.promise("amend");
        Check.refuses("by what is public, but not known", Check.STATE, () -> bench.amend(0, 0b10000));
    }

    /** The most that there may be is counted over all firms, schemes and tellers, with suits that are over, too. */
    private static void mostOfAll() {
        RelatorsBench bench = new RelatorsBench();
        for (int i = 0; i < 8; i++) {
            bench.scheme(i % 6, 1, BY_FACT);
            bench.learn(i, 0);
        }
        Check.promise("scheme");
        Check.refuses("a firm of one scheme", Check.STATE, () -> bench.scheme(5, 1, BY_FACT));
        for (int i = 0; i < 40; i++) {
            bench.claim(i % 8, 1);
        }
        Check.promise("claim");
        Check.refuses("a scheme of five", Check.STATE, () -> bench.claim(0, 1));
        for (int i = 0; i < 20; i++) {
            bench.deal(i % 7, 7, 1);
        }
        Check.promise("deal");
        Check.refuses("a teller of two", Check.STATE, () -> bench.deal(6, 7, 1));
        Check.refuses("a teller of none", Check.STATE, () -> bench.deal(7, 6, 1));
        for (int i = 0; i < 12; i++) {
            bench.file(i % 8, i % 6, 1);
        }
        Check.promise("file");
        Check.refuses("a teller of one, a firm of two", Check.STATE, () -> bench.file(7, 0, 1));
        bench.choose(0, DISMISSED);
        Check.refuses("with one that is dismissed", Check.STATE, () -> bench.file(0, 0, 1));
        bench.choose(1, JOINED);
        bench.judge(1);
        Check.refuses("with one that is won", Check.STATE, () -> bench.file(1, 1, 1));
        for (int i = 0; i < 40; i++) {
            bench.amend(2 + i % 10, 1);
        }
        Check.promise("amend");
        Check.refuses("a suit of four", Check.STATE, () -> bench.amend(2, 1));
    }

    /** A plan cuts the share only if it is of a scheme from which the suit is not barred, be it by 1, 2 or 3. */
    private static void planOfABarredScheme() {
        Check.promise("ofSuit");
        RelatorsBench bench = Runs.withSchemes(4);
        bench.publish(2);
        bench.file(0, 0, 0b0010);
        bench.file(0, 0, 0b1111);
        bench.scheme(1, 1, BY_FACT);
        bench.choose(0, DECLINED);
        bench.choose(1, DECLINED);
        bench.plan(0, 1);
        Check.is("another suit is first", 25, bench.ofSuit(1, 9));
        Check.is("of that one", 12, bench.ofSuit(0, 9));
        bench.plan(0, 2);
        Check.is("it is public", 25, bench.ofSuit(1, 9));
        bench.plan(0, 4);
        Check.is("it is of another firm", 25, bench.ofSuit(1, 9));
        bench.plan(1, 3);
        Check.is("it is of another planner", 25, bench.ofSuit(1, 9));
        bench.plan(0, 3);
        Check.is("it is the fourth of five", 12, bench.ofSuit(1, 9));
        Check.promise("settle");
        bench.fund(0, 1000);
        Check.is("the share of the first", 120, bench.settle(0, 1000));
        RelatorsBench joined = Runs.withSchemes(2);
        joined.fund(0, 1000);
        joined.publish(0);
        joined.file(0, 0, 0b11);
        joined.plan(0, 0);
        joined.choose(0, DECLINED);
        Check.promise("ofSuit");
        Check.is("barred, as it is public", 25, joined.ofSuit(0, 9));
        joined.choose(0, JOINED);
        Check.is("joined, so not barred", 7, joined.ofSuit(0, 9));
    }

    private static void planOfTwoSchemes() {
        Check.promise("ofSuit");
        RelatorsBench bench = Runs.withSchemes(3);
        bench.file(0, 0, 0b111);
        bench.choose(0, JOINED);
        for (int scheme = 0; scheme < 3; scheme++) {
            bench.plan(0, scheme);
            Check.is("planned " + (scheme + 1), 7, bench.ofSuit(0, 9));
        }
    }

    private static void publishedTwice() {
        Check.promise("publish");
        RelatorsBench bench = Runs.withSchemes(1);
        bench.publish(0);
        bench.pass(1);
        bench.file(0, 0, 1);
        bench.pass(1);
        Check.is("again", 1, bench.publish(0));
        Check.promise("bars");
        Check.is("public from the first time on", 3, bench.bars(0, 0));
    }

    /** Public after the filing, and by the day of the amendment that made it cover. */
    private static void publicWhenAmended() {
        Check.promise("bars");
        RelatorsBench bench = Runs.withSchemes(0);
        bench.scheme(0, 0b11, BY_FACT);
        bench.file(0, 0, 0b100);
        bench.pass(1);
        bench.publish(0);
        bench.pass(1);
        bench.amend(0, 0b1);
        Check.is("none of the others", 3, bench.bars(0, 0));
        bench.pass(1);
        bench.publish(1);
        Check.is("what is public later is one of the others still", 3, bench.bars(0, 0));
        bench.amend(0, 0b10);
        Check.is("one of the others, which is public now", 0, bench.bars(0, 0));
    }

    /** Public by the day of the amendment, but not by that of the filing to which it reaches back. */
    private static void publicAfterFiling() {
        Check.promise("bars");
        RelatorsBench bench = Runs.withSchemes(0);
        bench.scheme(0, 0b1111, BY_FACT);
        bench.file(0, 0, 0b1);
        bench.pass(1);
        for (int fact = 0; fact < 4; fact++) {
            bench.publish(fact);
        }
        bench.pass(1);
        bench.amend(0, 0b10);
        Check.promise("covers");
        Check.is("reaches back", 0, bench.covers(0, 0));
        Check.promise("bars");
        Check.is("nothing was public by then", 0, bench.bars(0, 0));
    }

    /** Of two suits filed on the day 0 and amended on the day 700, one reaches back. */
    private static void oldWhenAmended() {
        RelatorsBench bench = Runs.withSchemes(0);
        bench.fund(0, 10000);
        bench.scheme(0, 0b0011, BY_KEEPING);
        bench.scheme(0, 0b1100, BY_KEEPING);
        bench.sample(0, 1, 1);
        bench.sample(1, 1, 1);
        bench.claim(0, 100);
        bench.claim(1, 100);
        bench.file(0, 0, 0b10000);
        bench.pass(100);
        bench.claim(0, 1000);
        bench.claim(1, 1000);
        Runs.pass(bench, 600);
        bench.file(0, 0, 0b1000);
        bench.amend(0, 0b0001);
        Check.promise("due");
        Check.is("amended so that it covers", 3020, bench.due(0));
        Check.is("filed so that it covers", 3020, bench.due(1));
        Check.promise("judge");
        for (int suit = 0; suit < 2; suit++) {
            bench.choose(suit, JOINED);
            Check.is("suit " + suit, 3020, bench.judge(suit));
        }
        Check.promise("ofClaim");
        Check.is("too old for the first", NONE, bench.ofClaim(0, 3));
        Check.is("too old for the second", NONE, bench.ofClaim(1, 3));
        Check.is("not too old for the first", 0, bench.ofClaim(2, 3));
        Check.is("not too old for the second", 1, bench.ofClaim(3, 3));
    }

    /** A suit that is not first for a scheme covers it all the same. */
    private static void coveredByAnother() {
        Check.promise("admit");
        RelatorsBench bench = Runs.withSuits(2);
        Check.is("both are sealed", false, bench.admit(0));
        bench.choose(1, DECLINED);
        Check.refuses("the second is not", Check.STATE, () -> bench.admit(0));
        bench.choose(1, DISMISSED);
        Check.is("the second is dismissed", true, bench.admit(0));
        bench.choose(0, JOINED);
        Check.refuses("the first is joined", Check.STATE, () -> bench.admit(0));
    }

    /** A suit that is barred, as all is public, covers the scheme all the same. */
    private static void coveredInVain() {
        Check.promise("admit");
        RelatorsBench bench = Runs.withSchemes(1);
        bench.scheme(1, 1, BY_FACT);
        bench.publish(0);
        bench.file(0, 0, 1);
        bench.choose(0, DECLINED);
        Check.is("barred by what is public", 3, bench.bars(0, 0));
        Check.refuses("which it covers", Check.STATE, () -> bench.admit(0));
        Check.is("a scheme of another firm", false, bench.admit(1));
    }

    /** A suit that becomes first by reaching back does not have the claims that were paid for before. */
    private static void paidForByAnother() {
        RelatorsBench bench = Runs.withSchemes(0);
        bench.fund(0, 10000);
        bench.scheme(0, 0b1111, BY_KEEPING);
        bench.sample(0, 1, 1);
        bench.claim(0, 1000);
        bench.file(0, 0, 0b1);
        bench.pass(1);
        bench.file(0, 0, 0b1100);
        bench.choose(1, JOINED);
        Check.promise("judge");
        Check.is("the one that is first", 3020, bench.judge(1));
        bench.amend(0, 0b10);
        Check.promise("first");
        Check.is("the one that reaches back", 0, bench.first(0));
        Check.promise("bars");
        Check.is("the one that is won", 2, bench.bars(1, 0));
        Check.promise("due");
        Check.is("all are paid for", 0, bench.due(0));
        bench.claim(0, 100);
        Check.is("but a later one", 320, bench.due(0));
        bench.choose(0, DECLINED);
        Check.promise("judge");
        Check.is("the later one", 320, bench.judge(0));
        Check.promise("ofClaim");
        Check.is("by the one that was first", 1, bench.ofClaim(0, 3));
        Check.is("by the one that is first now", 0, bench.ofClaim(1, 3));
    }

    private static void settledForNothing() {
        Check.promise("settle");
        RelatorsBench bench = Runs.suedClaim(1000, 100);
        bench.choose(0, JOINED);
        Check.is("for nothing", 0, bench.settle(0, 0));
        Check.is("what the firm has", 1000, bench.ofFirm(0, 0));
        Check.promise("ofClaim");
        Check.is("paid for all the same", 0, bench.ofClaim(0, 3));
    }

    /** What is due counts, also if the firm has less. */
    private static void settledByThePoor() {
        Check.promise("settle");
        RelatorsBench bench = Runs.suedClaim(63, 100);
        bench.choose(0, DECLINED);
        Check.refuses("for all that it has, a fifth of 320 but one", Check.STATE, () -> bench.settle(0, 63));
        Check.refuses("for a fifth of what it has", Check.STATE, () -> bench.settle(0, 13));
        bench.fund(0, 1);
        Check.is("for a fifth of what is due", 16, bench.settle(0, 64));
    }

    private static void wagesOfTwoTellers() {
        Check.promise("work");
        RelatorsBench bench = new RelatorsBench();
        bench.fund(0, 1000000);
        for (int teller = 0; teller < 2; teller++) {
            bench.tell(0, teller);
            Check.is("teller " + teller, NONE, bench.work(teller, 0, 10 + teller));
        }
        Check.promise("fire");
        Check.is("the first", true, bench.fire(0, 0));
        Check.is("the second works on", true, bench.fire(0, 1));
        bench.pass(5);
        Check.promise("award");
        Check.is("of the first's wage", 100, bench.award(0, 0));
        Check.is("of the second's wage", 110, bench.award(0, 1));
    }

    private static void workedOnForAnotherWage() {
        Check.promise("work");
        RelatorsBench bench = new RelatorsBench();
        bench.fund(0, 1000000);
        bench.tell(0, 0);
        bench.work(0, 0, 10);
        Check.is("for the same firm", 0, bench.work(0, 0, 20));
        bench.fire(0, 0);
        bench.pass(1);
        Check.promise("award");
        Check.is("of the latter wage", 40, bench.award(0, 0));
        bench.work(0, 1, 30);
        Check.promise("work");
        Check.is("for another firm", 1, bench.work(0, 0, 5));
        bench.fire(0, 0);
        bench.pass(1);
        Check.promise("award");
        Check.is("of the wage there", 10, bench.award(0, 0));
    }

    private static void toldOfTwoTellers() {
        Check.promise("tell");
        RelatorsBench bench = new RelatorsBench();
        Check.is("the first teller", 0, bench.tell(0, 0));
        bench.pass(1);
        Check.is("another teller", 1, bench.tell(0, 1));
        Check.is("another firm", 1, bench.tell(1, 0));
        bench.learn(2, 0);
        bench.file(2, 0, 1);
        bench.choose(0, DECLINED);
        bench.pass(1);
        Check.is("another firm than that of the suit", 2, bench.tell(1, 2));
        Check.is("another teller than that of the suit", 2, bench.tell(0, 3));
        Check.is("those of the suit", 1, bench.tell(0, 2));
    }

    private static void awardsOfTwoTellers() {
        Check.promise("award");
        RelatorsBench bench = new RelatorsBench();
        for (int firm = 0; firm < 2; firm++) {
            bench.fund(firm, 1000);
            for (int teller = 0; teller < 2; teller++) {
                bench.tell(firm, teller);
                bench.work(teller, firm, 1 + firm + 2 * teller);
                bench.fire(firm, teller);
            }
        }
        bench.pass(1);
        for (int firm = 0; firm < 2; firm++) {
            for (int teller = 0; teller < 2; teller++) {
                int asked = teller;
                int by = firm;
                Check.is("by " + firm + " to " + teller, 2 * (1 + firm + 2 * teller), bench.award(firm, teller));
                Check.refuses("by " + firm + " to " + teller, Check.STATE, () -> bench.award(by, asked));
            }
        }
    }

    /** Work after a firing leaves its award; a later firing has an award of its own. */
    private static void rehired() {
        Check.promise("award");
        RelatorsBench bench = new RelatorsBench();
        bench.fund(0, 1000);
        bench.tell(0, 0);
        bench.work(0, 0, 3);
        bench.fire(0, 0);
        bench.pass(1);
        bench.work(0, 0, 5);
        Check.is("works for it again", 6, bench.award(0, 0));
        Check.refuses("which was had", Check.STATE, () -> bench.award(0, 0));
        bench.fire(0, 0);
        bench.pass(1);
        bench.work(0, 1, 7);
        Check.is("works for another one", 10, bench.award(0, 0));
        bench.work(0, 0, 1);
        bench.fire(0, 0);
        bench.pass(2);
        bench.work(0, 0, 9);
        bench.fire(0, 0);
        bench.pass(1);
        Check.is("for the latest firing alone", 18, bench.award(0, 0));
        Check.refuses("the one before it", Check.STATE, () -> bench.award(0, 0));
    }
}
