/**
 * The edges that the document's terms name: half of a set, the days of a seal, of claims and of firings on which
 * something still holds and the first on which it does not, the last day, the largest sums, what is rounded.
 */
public final class EdgesTest {
    private static final int NONE = RelatorsBench.NONE;
    private static final int JOINED = RelatorsBench.JOINED;
    private static final int DECLINED = RelatorsBench.DECLINED;
    private static final int DISMISSED = RelatorsBench.DISMISSED;
    private static final int WON = RelatorsBench.WON;
    private static final int LAST_DAY = 3000;

    public static void main(String[] args) {
        nothingIsTold();
        allThatThereIs();
        halfOfEachSize();
        halfByTheLastAmendment();
        eachSuitAndAmendmentOnADay();
        publicByTheDay();
        joinedOnce();
        daysOfTheSeal();
        endedSeals();
        olderThanTheSuit();
        knownFromTheDay();
        helpOfEachSize();
        dueAndMoney();
        settledForEnough();
        largestShares();
        allDealtAway();
        dealsAheadOfTheDay();
        ninetyDays();
        awardedDays();
        awardsAndMoney();
        awardsOfTwoFirms();
        theLastDay();
        theLastDayOfWages();
        Check.close();
    }

    private static void nothingIsTold() {
        Check.promise("A new object");
        RelatorsBench bench = new RelatorsBench();
        for (int teller = 0; teller < 8; teller++) {
            int asked = teller;
            for (int firm = 0; firm < 6; firm++) {
                int by = firm;
                Check.refuses("no work for " + firm, Check.STATE, () -> bench.fire(by, asked));
                Check.refuses("no firing by " + firm, Check.STATE, () -> bench.award(by, asked));
                Check.is("told on the day 0", 0, bench.tell(firm, teller));
            }
            Check.refuses("no fact is known", Check.STATE, () -> bench.file(asked, 0, 1));
            Check.is("the first fact", 1, bench.learn(teller, 15));
            Check.is("the first deal", 1, bench.deal(teller, (teller + 1) % 8, 1));
        }
        Check.is("the first public fact", 1, bench.publish(15));
        Check.is("the first day", 1, bench.pass(1));
    }

    private static void allThatThereIs() {
        RelatorsBench bench = new RelatorsBench();
        for (int fact = 0; fact < 16; fact++) {
            Check.promise("learn");
            Check.is("fact " + fact, fact + 1, bench.learn(7, fact));
            Check.promise("publish");
            Check.is("fact " + fact, fact + 1, bench.publish(fact));
        }
        Check.is("the last one again", 16, bench.publish(15));
        Check.promise("all");
        Check.is("every fact is public", 16, bench.all(2));
        Check.promise("fund");
        for (int firm = 0; firm < 6; firm++) {
            Check.is("firm " + firm, firm + 1, bench.fund(firm, firm + 1));
        }
        Check.promise("all");
        for (int suit = 0; suit < 12; suit++) {
            bench.file(7, 0, 65535);
            Check.is("sealed suits", suit + 1, bench.all(3));
        }
        Check.promise("amend");
        Check.is("every fact", 16, bench.amend(11, 65535));
        Check.promise("first");
        for (int scheme = 0; scheme < 8; scheme++) {
            bench.scheme(0, 65535 >> scheme, 0);
            Check.is("of the most schemes and suits", 0, bench.first(scheme));
        }
    }

    /** A suit with a half of a scheme, rounded up, covers it; one with one less does not. */
    private static void halfOfEachSize() {
        for (int size = 1; size <= 16; size++) {
            int half = (size + 1) / 2;
            RelatorsBench bench = Runs.withSchemes(0);
            bench.scheme(0, (1 << size) - 1, 0);
            bench.scheme(1, (1 << size) - 1 << 16 - size, 0);
            bench.pass(1);
            bench.file(0, 0, (1 << half) - 1);
            bench.file(0, 1, (1 << half) - 1 << 16 - half);
            Check.promise("covers");
            Check.is("half of " + size, 1, bench.covers(0, 0));
            Check.is("half of the last " + size, 1, bench.covers(1, 1));
            if (half > 1) {
                bench.file(0, 0, (1 << half - 1) - 1);
                Check.is("less than half of " + size, NONE, bench.covers(2, 0));
                Check.promise("bars");
                Check.is("less than half of " + size, 1, bench.bars(2, 0));
            }
            Check.promise("bars");
            Check.is("half of " + size, 0, bench.bars(0, 0));
        }
    }

    private static void halfByTheLastAmendment() {
        Check.promise("covers");
        RelatorsBench bench = Runs.withSchemes(0);
        bench.scheme(0, 0b11110, 0);
        bench.scheme(0, 0b11111, 0);
        bench.file(0, 0, 0b1);
        bench.pass(1);
        bench.amend(0, 0b10);
        Check.is("one of four", NONE, bench.covers(0, 0));
        Check.is("two of five", NONE, bench.covers(0, 1));
        bench.pass(1);
        bench.amend(0, 0b100);
        Check.is("two of four, none of them filed", 2, bench.covers(0, 0));
        Check.is("three of five, one of them filed", 0, bench.covers(0, 1));
        Check.promise("first");
        bench.file(0, 0, 0b11111);
        Check.is("the lowest of that day", 0, bench.first(0));
        Check.promise("firstAnew");
        Check.is("the lowest of that day", 0, bench.firstAnew(0));
    }

    /** The most suits and amendments that there may be, each on a day of its own: the last one covers the scheme. */
    private static void eachSuitAndAmendmentOnADay() {
        RelatorsBench bench = Runs.withSchemes(1);
        for (int suit = 0; suit < 12; suit++) {
            bench.pass(1);
            bench.file(0, 0, 0b10);
        }
        for (int i = 0; i < 39; i++) {
            bench.pass(2);
            bench.amend(i % 12, 0b110);
        }
        Check.promise("firstAnew");
        Check.is("without a covering one", NONE, bench.firstAnew(0));
        bench.pass(2);
        Check.promise("amend");
        Check.is("the last amendment", 3, bench.amend(11, 0b1));
        Check.promise("covers");
        Check.is("by the last amendment", 92, bench.covers(11, 0));
        Check.promise("first");
        Check.is("by the last amendment", 11, bench.first(0));
        Check.promise("firstAnew");
        Check.is("by the last amendment", 11, bench.firstAnew(0));
        bench.choose(11, DISMISSED);
        Check.is("dismissed", NONE, bench.firstAnew(0));
    }

    private static void publicByTheDay() {
        Check.promise("bars");
        RelatorsBench bench = Runs.withSchemes(0);
        for (int firm = 0; firm < 4; firm++) {
            bench.scheme(firm, 0b1111, 0);
        }
        bench.publish(0);
        bench.pass(1);
        bench.file(0, 0, 0b11);
        Check.is("one of four was public", 0, bench.bars(0, 0));
        bench.publish(1);
        Check.is("public on that day, but after the suit", 3, bench.bars(0, 0));
        bench.file(0, 1, 0b111);
        Check.is("it has one of the others", 0, bench.bars(1, 1));
        bench.publish(2);
        Check.is("which is public on that day, too", 3, bench.bars(1, 1));
        bench.amend(1, 0b10000);
        Check.is("amended by a fact that is not of the scheme", 3, bench.bars(1, 1));
        bench.amend(1, 0b1000);
        Check.is("amended by the other one now", 0, bench.bars(1, 1));
        bench.file(0, 2, 0b11);
        bench.file(0, 3, 0b11);
        bench.pass(1);
        bench.publish(3);
        bench.amend(2, 0b1000);
        Check.is("by one that was published a day later", 0, bench.bars(2, 2));
        Check.is("without it", 3, bench.bars(3, 3));
    }

    private static void joinedOnce() {
        Check.promise("bars");
        RelatorsBench bench = Runs.suedClaim(1000, 100);
        bench.publish(0);
        Check.is("open", 3, bench.bars(0, 0));
        bench.choose(0, DECLINED);
        Check.is("declined", 3, bench.bars(0, 0));
        Check.promise("due");
        Check.is("barred", 0, bench.due(0));
        bench.choose(0, JOINED);
        Check.is("joined", 320, bench.due(0));
        Check.promise("bars");
        bench.judge(0);
        Check.is("won, and was joined", 0, bench.bars(0, 0));
        RelatorsBench declined = Runs.suedClaim(1000, 100);
        declined.publish(0);
        declined.choose(0, DECLINED);
        Check.promise("judge");
        Check.is("barred", 0, declined.judge(0));
        Check.is("its claim is not paid for", NONE, declined.ofClaim(0, 3));
        Check.promise("bars");
        Check.is("won, and was never joined", 3, declined.bars(0, 0));
    }

    /** Filed on the day 7, and extended up to four times: sealed on the last day, not on the next one. */
    private static void daysOfTheSeal() {
        for (int times = 0; times <= 4; times++) {
            RelatorsBench bench = new RelatorsBench();
            bench.scheme(0, 1, 0);
            bench.learn(0, 0);
            bench.work(0, 0, 1);
            bench.pass(7);
            bench.file(0, 0, 1);
            int open = 67;
            for (int i = 0; i < times; i++) {
                open += 30;
                Check.promise("extend");
                Check.is("extended to", open, bench.extend(0));
            }
            bench.pass(open - 1 - 7);
            isSealed("extended " + times + " times, on its last day", bench, true, open);
            Check.promise("admit");
            Check.passes("on the last day of the seal", () -> bench.admit(0));
            Check.promise("fire");
            Check.is("on the last day of the seal", false, bench.fire(0, 0));
            bench.pass(1);
            isSealed("extended " + times + " times, on the next day", bench, false, open);
            Check.promise("extend");
            Check.refuses("on the first day without a seal", Check.STATE, () -> bench.extend(0));
            Check.promise("admit");
            Check.refuses("on the first day without a seal", Check.STATE, () -> bench.admit(0));
            Check.promise("fire");
            bench.work(0, 0, 1);
            Check.is("on the first day without a seal", true, bench.fire(0, 0));
            Check.promise("tell");
            bench.pass(1);
            Check.is("by a suit", open, bench.tell(0, 0));
        }
    }

    private static void isSealed(String what, RelatorsBench bench, boolean isSealed, int open) {
        Check.promise("sees");
        Check.is(what, !isSealed, bench.sees(1, 0));
        Check.is("its teller, " + what, true, bench.sees(0, 0));
        Check.promise("all");
        Check.is(what, isSealed ? 1 : 0, bench.all(3));
        Check.promise("ofSuit");
        Check.is(what, open, bench.ofSuit(0, 5));
    }

    /** The choice ends the seal on its day: the first one, the last one, and one on which it had ended. */
    private static void endedSeals() {
        for (int choice = JOINED; choice <= DISMISSED; choice++) {
            for (int day : new int[] {0, 1, 59, 60, 61}) {
                RelatorsBench bench = Runs.suedScheme(0);
                if (day > 0) {
                    bench.pass(day);
                }
                bench.choose(0, choice);
                isSealed("chosen " + choice + " on day " + day, bench, false, day < 60 ? day : 60);
                Check.promise("extend");
                Check.refuses("chosen " + choice, Check.STATE, () -> bench.extend(0));
                Check.promise("tell");
                Check.is("chosen " + choice, day < 60 ? day : 60, bench.tell(0, 0));
            }
        }
    }

    /** Claims of the day 0 and a suit that many days later; then an amendment. */
    private static void olderThanTheSuit() {
        for (int days : new int[] {599, 600, 601}) {
            RelatorsBench bench = Runs.withSchemes(2);
            bench.fund(0, 1000);
            bench.sample(0, 1, 1);
            bench.sample(1, 1, 1);
            bench.claim(0, 10);
            bench.claim(1, 10);
            bench.file(0, 0, 0b100);
            Runs.pass(bench, days);
            bench.file(0, 0, 0b1);
            bench.amend(0, 0b10);
            int due = days <= 600 ? 130 : 0;
            Check.promise("due");
            Check.is("a claim " + days + " days older than the suit", due, bench.due(1));
            Check.is("a claim " + days + " days older than the amendment", due, bench.due(0));
            bench.pass(300);
            Check.is("the days since the suit do not matter", due, bench.due(1));
            Check.promise("judge");
            bench.choose(1, JOINED);
            Check.is("a claim " + days + " days older", due, bench.judge(1));
            Check.is("which is paid for", days <= 600 ? 1 : NONE, bench.ofClaim(0, 3));
        }
    }

    private static void knownFromTheDay() {
        Check.promise("know");
        RelatorsBench bench = Runs.suedScheme(RelatorsBench.BY_KEEPING);
        bench.scheme(0, 1, RelatorsBench.BY_KEEPING);
        bench.sample(0, 1, 1);
        bench.sample(1, 1, 1);
        Check.is("on the first day", false, bench.know(0));
        bench.claim(0, 100);
        bench.claim(1, 1);
        Check.is("a claim of that day, another scheme", 23, bench.due(0));
        bench.pass(1);
        bench.claim(1, 10);
        bench.know(1);
        bench.claim(1, 1000);
        Check.is("the day ahead counts, that day does not, ahead of it or after it", 23, bench.due(0));
    }

    private static void helpOfEachSize() {
        Check.promise("ofSuit");
        int[] joined = {15, 16, 17, 18, 19, 20, 21, 22, 23, 24, 25};
        int[] declined = {25, 25, 26, 26, 27, 27, 28, 28, 29, 29, 30};
        int[] joinedPlanner = {7, 8, 8, 9, 9, 10, 10, 11, 11, 12, 12};
        int[] declinedPlanner = {12, 12, 13, 13, 13, 13, 14, 14, 14, 14, 15};
        for (int help = 0; help <= 10; help++) {
            RelatorsBench bench = Runs.suedScheme(0);
            bench.help(0, help);
            Check.is("open, help " + help, 0, bench.ofSuit(0, 9));
            bench.choose(0, DECLINED);
            Check.is("declined, help " + help, declined[help], bench.ofSuit(0, 9));
            bench.plan(0, 0);
            Check.is("declined, a planner, help " + help, declinedPlanner[help], bench.ofSuit(0, 9));
            bench.choose(0, JOINED);
            Check.is("joined, a planner, help " + help, joinedPlanner[help], bench.ofSuit(0, 9));
            bench.judge(0);
            Check.is("won, a planner, help " + help, joinedPlanner[help], bench.ofSuit(0, 9));
            RelatorsBench other = Runs.suedScheme(0);
            other.choose(0, JOINED);
            other.help(0, help);
            Check.is("joined, help " + help, joined[help], other.ofSuit(0, 9));
            other.choose(0, DISMISSED);
            Check.is("dismissed, help " + help, 0, other.ofSuit(0, 9));
            Check.is("its help " + help, help, other.ofSuit(0, 6));
        }
    }

    private static void dueAndMoney() {
        Check.promise("judge");
        for (int money : new int[] {1, 319, 320, 321}) {
            RelatorsBench bench = Runs.suedClaim(money, 100);
            bench.choose(0, JOINED);
            int paid = money < 320 ? money : 320;
            Check.is("320 are due of " + money, paid, bench.judge(0));
            Check.is("what is left of " + money, money - paid, bench.ofFirm(0, 0));
            Check.is("the claim is paid for", 0, bench.ofClaim(0, 3));
        }
        RelatorsBench poor = Runs.suedScheme(0);
        poor.claim(0, 9999);
        poor.sample(0, 1, 1);
        poor.choose(0, DECLINED);
        Check.is("the firm has no money", 0, poor.judge(0));
        Check.is("it is won all the same", WON, poor.ofSuit(0, 4));
        Check.is("and its claim paid for", 0, poor.ofClaim(0, 3));
    }

    private static void settledForEnough() {
        Check.promise("settle");
        RelatorsBench all = Runs.suedClaim(1000, 100);
        all.choose(0, DECLINED);
        Check.refuses("for one more than it has", Check.STATE, () -> all.settle(0, 1001));
        Check.is("for all that it has", 250, all.settle(0, 1000));
        Check.is("it has none left", 0, all.ofFirm(0, 0));
        RelatorsBench fifth = Runs.suedClaim(1000, 101);
        fifth.choose(0, DECLINED);
        Check.is("no multiple of five is due", 323, fifth.due(0));
        Check.refuses("five times are 320", Check.STATE, () -> fifth.settle(0, 64));
        Check.is("five times are 325", 16, fifth.settle(0, 65));
        RelatorsBench nothing = Runs.suedScheme(0);
        nothing.choose(0, DECLINED);
        Check.refuses("a firm without money, for one", Check.STATE, () -> nothing.settle(0, 1));
        Check.is("nothing is due, for nothing", 0, nothing.settle(0, 0));
        Check.is("it is won", WON, nothing.ofSuit(0, 4));
        RelatorsBench joined = Runs.suedClaim(63, 100);
        joined.choose(0, JOINED);
        Check.refuses("joined, for one more than it has", Check.STATE, () -> joined.settle(0, 64));
        Check.is("joined, for less than a fifth", 9, joined.settle(0, 63));
    }

    /** Products of the largest sum and its hundredths leave the range of an int. */
    private static void largestShares() {
        Check.promise("settle");
        for (int choice = JOINED; choice <= DECLINED; choice++) {
            RelatorsBench bench = new RelatorsBench();
            bench.deal(0, 1, 99);
            bench.pass(1);
            bench.learn(0, 0);
            bench.file(0, 0, 1);
            Runs.enrich(bench);
            bench.choose(0, choice);
            bench.help(0, 10);
            int share = choice == JOINED ? 25000000 : 30000000;
            Check.is("the share of the largest sum", share, bench.settle(0, 100000000));
            Check.is("what others have of it", share / 100 * 99, bench.got(1, 1));
            Check.is("what the teller has of it", share / 100, bench.got(0, 0));
            Check.is("what the state has of it", 100000000 - share, bench.all(1));
            Check.is("what was paid", 100000000, bench.ofSuit(0, 7));
            Check.is("what the firm paid", 100000000, bench.ofFirm(0, 2));
            Check.is("what it has then", 0, bench.ofFirm(0, 0));
        }
        Check.promise("all");
        RelatorsBench twice = Runs.withJoined(2);
        for (int suit = 0; suit < 2; suit++) {
            Runs.enrich(twice);
            twice.settle(suit, 100000000);
        }
        Check.is("twice the largest sum", 170000000, twice.all(1));
        Check.promise("ofFirm");
        Check.is("was given twice the most", 200000000, twice.ofFirm(0, 1));
        Check.is("paid twice the most", 200000000, twice.ofFirm(0, 2));
        Check.promise("got");
        Check.is("twice the share", 30000000, twice.got(0, 0));
    }

    private static void allDealtAway() {
        Check.promise("deal");
        RelatorsBench bench = Runs.withSchemes(1);
        bench.fund(0, 1000);
        bench.deal(0, 7, 100);
        bench.deal(7, 0, 100);
        bench.pass(1);
        bench.file(0, 0, 1);
        bench.choose(0, JOINED);
        Check.is("the share", 15, bench.settle(0, 100));
        Check.is("the other has all of it", 15, bench.got(7, 1));
        Check.is("the teller has none", 0, bench.got(0, 0) + bench.got(0, 1));
        RelatorsBench small = Runs.withSchemes(1);
        small.fund(0, 1000);
        for (int i = 0; i < 20; i++) {
            Check.is("deals of 5", 5 * i + 5, small.deal(0, 1 + i % 2, 5));
        }
        small.pass(1);
        small.file(0, 0, 1);
        small.choose(0, JOINED);
        Check.is("a small share", 19, small.settle(0, 127));
        Check.is("twenty parts, each less than one", 0, small.got(1, 1) + small.got(2, 1));
        Check.is("the teller has the rest", 19, small.got(0, 0));
    }

    private static void dealsAheadOfTheDay() {
        Check.promise("deal");
        RelatorsBench bench = Runs.withSchemes(1);
        bench.fund(0, 1000);
        bench.pass(1);
        bench.deal(0, 1, 10);
        bench.pass(1);
        bench.deal(0, 2, 10);
        bench.file(0, 0, 1);
        bench.deal(0, 3, 10);
        bench.pass(1);
        bench.amend(0, 1);
        bench.file(0, 0, 1);
        bench.choose(0, JOINED);
        bench.choose(1, JOINED);
        bench.settle(0, 200);
        Check.is("made a day ahead of the suit", 3, bench.got(1, 1));
        Check.is("made on its day, ahead of it", 0, bench.got(2, 1));
        Check.is("made on its day, after it", 0, bench.got(3, 1));
        bench.settle(1, 200);
        Check.is("of a later suit of the teller", 3, bench.got(2, 1));
        Check.is("by all three", 9 + 3, bench.got(1, 1) + bench.got(2, 1) + bench.got(3, 1));
        Check.is("the teller has the rest of both", 60 - 12, bench.got(0, 0));
    }

    private static void ninetyDays() {
        Check.promise("fire");
        for (int days : new int[] {0, 1, 89, 90, 91, 300}) {
            RelatorsBench bench = Runs.suedScheme(0);
            bench.work(0, 0, 1);
            bench.work(1, 0, 1);
            bench.pass(60);
            bench.tell(0, 1);
            if (days > 0) {
                bench.pass(days);
            }
            Check.is(days + " days after the end of the seal", days <= 90, bench.fire(0, 0));
            Check.is(days + " days after it was told", days <= 90, bench.fire(0, 1));
        }
    }

    private static void awardedDays() {
        Check.promise("award");
        for (int days : new int[] {0, 1, 2, 399, 400, 401, 800, 3000}) {
            RelatorsBench bench = new RelatorsBench();
            bench.fund(0, 1000000);
            bench.tell(0, 0);
            bench.work(0, 0, 999);
            bench.fire(0, 0);
            if (days > 0) {
                Runs.pass(bench, days);
            }
            int paid = 1998 * (days < 400 ? days : 400);
            Check.is(days + " days since", paid, bench.award(0, 0));
            Check.is("what the firm paid", paid, bench.ofFirm(0, 3));
            Check.is("what the teller got", paid, bench.got(0, 2));
            Check.refuses("had for " + days + " days", Check.STATE, () -> bench.award(0, 0));
        }
    }

    private static void awardsAndMoney() {
        Check.promise("award");
        for (int money : new int[] {1, 59, 60, 61}) {
            RelatorsBench bench = new RelatorsBench();
            bench.fund(0, money);
            bench.tell(0, 0);
            bench.work(0, 0, 10);
            bench.fire(0, 0);
            bench.pass(3);
            int paid = money < 60 ? money : 60;
            Check.is("60 of " + money, paid, bench.award(0, 0));
            Check.is("what is left of " + money, money - paid, bench.ofFirm(0, 0));
        }
        RelatorsBench free = new RelatorsBench();
        free.tell(0, 0);
        free.work(0, 0, 0);
        free.fire(0, 0);
        free.pass(3);
        free.fund(0, 100);
        Check.is("of no wage", 0, free.award(0, 0));
        Check.refuses("which was had", Check.STATE, () -> free.award(0, 0));
        free.work(0, 0, 7);
        free.fire(0, 0);
        free.fund(0, 5);
        free.work(0, 0, 9);
        free.pass(1);
        Check.is("the wage of the firing, not of later work", 14, free.award(0, 0));
    }

    private static void awardsOfTwoFirms() {
        Check.promise("award");
        RelatorsBench bench = new RelatorsBench();
        for (int firm = 0; firm < 6; firm += 5) {
            bench.fund(firm, 1000);
            bench.tell(firm, 7);
            bench.work(7, firm, 1 + firm);
            bench.fire(firm, 7);
            bench.pass(2);
        }
        bench.work(7, 1, 50);
        Check.is("a third firm fires for another cause", false, bench.fire(1, 7));
        Check.is("the latest firing by the first", 8, bench.award(0, 7));
        Check.is("the latest firing by the last", 24, bench.award(5, 7));
        Check.refuses("the third", Check.STATE, () -> bench.award(1, 7));
        Check.promise("got");
        Check.is("by both awards", 32, bench.got(7, 2));
    }

    private static void theLastDay() {
        RelatorsBench bench = new RelatorsBench();
        bench.scheme(0, 0b11, RelatorsBench.BY_KEEPING);
        bench.scheme(0, 0b1100, RelatorsBench.BY_KEEPING);
        bench.sample(0, 1, 1);
        Runs.learnAll(bench, 0);
        Runs.pass(bench, LAST_DAY - 600);
        bench.claim(0, 10);
        Runs.pass(bench, 600);
        bench.claim(0, 100);
        Check.promise("claim");
        Check.is("on the last day", LAST_DAY, bench.ofClaim(1, 2));
        Check.promise("file");
        Check.is("on the last day", 0, bench.file(0, 0, 0b1));
        Check.is("its day", LAST_DAY, bench.ofSuit(0, 3));
        Check.is("the end of its seal is not reached", LAST_DAY + 60, bench.ofSuit(0, 5));
        Check.promise("extend");
        for (int i = 1; i <= 4; i++) {
            Check.is("on the last day", LAST_DAY + 60 + 30 * i, bench.extend(0));
        }
        Check.promise("amend");
        Check.is("on the last day", 3, bench.amend(0, 0b1100));
        Check.promise("covers");
        Check.is("filed on the last day", LAST_DAY, bench.covers(0, 0));
        Check.is("amended on the last day", LAST_DAY, bench.covers(0, 1));
        for (int scheme = 0; scheme < 2; scheme++) {
            Check.promise("first");
            Check.is("on the last day", 0, bench.first(scheme));
            Check.promise("firstAnew");
            Check.is("on the last day", 0, bench.firstAnew(scheme));
        }
        Check.promise("due");
        Check.is("600 days older, and of that day", 370, bench.due(0));
        Check.promise("pass");
        Check.refuses("a day after the last one", Check.STATE, () -> bench.pass(1));
        Check.promise("choose");
        bench.choose(0, DISMISSED);
        Check.is("on the last day", LAST_DAY, bench.ofSuit(0, 5));
    }

    private static void theLastDayOfWages() {
        RelatorsBench bench = new RelatorsBench();
        bench.fund(0, 1000000);
        Runs.pass(bench, LAST_DAY - 401);
        for (int teller = 0; teller < 2; teller++) {
            bench.tell(0, teller);
            bench.work(teller, 0, 1);
            bench.fire(0, teller);
            bench.pass(1);
        }
        Runs.pass(bench, 399);
        Check.promise("award");
        Check.is("401 days ahead of the last day", 800, bench.award(0, 0));
        Check.is("400 days ahead of the last day", 800, bench.award(0, 1));
        Check.promise("tell");
        Check.is("on the last day", LAST_DAY, bench.tell(0, 2));
        Check.promise("fire");
        bench.work(2, 0, 1);
        Check.is("on the last day", true, bench.fire(0, 2));
        Check.promise("award");
        Check.is("no day since", 0, bench.award(0, 2));
        Check.promise("know");
        bench.scheme(0, 1, 0);
        Check.is("on the last day", false, bench.know(0));
        Check.promise("all");
        Check.is("the last day", LAST_DAY, bench.all(0));
    }
}
