/** Promises 11 to 18: deals, suits, what the state chooses, help, judging and settling. */
public final class SuitsTest {
    private static final int JOINED = RelatorsBench.JOINED;
    private static final int DECLINED = RelatorsBench.DECLINED;
    private static final int DISMISSED = RelatorsBench.DISMISSED;
    private static final int WON = RelatorsBench.WON;

    public static void main(String[] args) {
        deal();
        dealsAreFull();
        partsByDeals();
        file();
        suitsAreFull();
        amend();
        amendmentsAreFull();
        extend();
        extendRefused();
        choose();
        chooseRefused();
        chooseEndsTheSeal();
        help();
        judge();
        judgePoor();
        judgePaysClaims();
        settle();
        settleLarge();
        Check.close();
    }

    private static void deal() {
        Check.promise("deal");
        RelatorsBench bench = new RelatorsBench();
        Check.is("deal", 1, bench.deal(0, 1, 1));
        Check.is("deal with the same again", 50, bench.deal(0, 1, 49));
        Check.is("deal up to all", 100, bench.deal(0, 7, 50));
        Check.is("another gives all at once", 100, bench.deal(7, 0, 100));
        Check.refuses("deal away more than all", Check.STATE, () -> bench.deal(0, 2, 1));
        Check.refuses("deal teller -1", Check.INDEX, () -> bench.deal(-1, -1, 0));
        Check.refuses("deal teller 8", Check.INDEX, () -> bench.deal(8, 0, 1));
        Check.refuses("deal other -1", Check.INDEX, () -> bench.deal(0, -1, 0));
        Check.refuses("deal other 8", Check.INDEX, () -> bench.deal(8, 8, 1));
        Check.refuses("deal with oneself", Check.ARGUMENT, () -> bench.deal(0, 0, 1));
        Check.refuses("deal 0", Check.ARGUMENT, () -> bench.deal(0, 1, 0));
        Check.refuses("deal 101", Check.ARGUMENT, () -> bench.deal(1, 0, 101));
        Check.refuses("deal with oneself ahead of state", Check.ARGUMENT, () -> bench.deal(7, 7, 100));
        Check.is("refused deals give nothing", 99, bench.deal(2, 0, 99));
        Check.refuses("deal one too many", Check.STATE, () -> bench.deal(2, 0, 2));
        Check.is("a refused deal is not counted", 100, bench.deal(2, 0, 1));
    }

    private static void dealsAreFull() {
        Check.promise("deal");
        RelatorsBench bench = new RelatorsBench();
        for (int i = 0; i < 20; i++) {
            Check.is("deal " + i, i / 2 + 1, bench.deal(i % 2, 2, 1));
        }
        Check.refuses("deal 21", Check.STATE, () -> bench.deal(3, 2, 1));
        Check.refuses("deal range ahead of full", Check.ARGUMENT, () -> bench.deal(3, 2, 0));
    }

    private static void partsByDeals() {
        Check.promise("deal");
        RelatorsBench bench = new RelatorsBench();
        bench.fund(0, 1000);
        bench.learn(0, 0);
        bench.deal(0, 1, 50);
        bench.deal(0, 1, 25);
        bench.deal(1, 2, 50);
        bench.pass(1);
        bench.deal(0, 3, 10);
        bench.file(0, 0, 1);
        bench.deal(0, 4, 10);
        bench.pass(1);
        bench.deal(0, 5, 5);
        bench.choose(0, DECLINED);
        Check.is("a quarter of 207", 51, bench.settle(0, 207));
        Check.is("each part is rounded down by itself", 25 + 12, bench.got(1, 1));
        Check.is("the teller has the rest", 14, bench.got(0, 0));
        Check.is("a part is not a share", 0, bench.got(1, 0));
        Check.is("parts are not dealt on", 0, bench.got(2, 1));
        Check.is("a deal of the day of filing", 0, bench.got(3, 1) + bench.got(4, 1));
        Check.is("a deal later", 0, bench.got(5, 1));
        Check.is("the state has what the share leaves", 156, bench.all(1));
    }

    private static void file() {
        Check.promise("file");
        RelatorsBench bench = new RelatorsBench();
        Runs.learnAll(bench, 7);
        bench.learn(0, 1);
        bench.pass(3);
        Check.is("file", 0, bench.file(7, 5, 65535));
        Check.is("file one fact", 1, bench.file(0, 0, 2));
        Check.is("filed today", 3, bench.ofSuit(0, 3));
        Check.is("filed open", RelatorsBench.OPEN, bench.ofSuit(1, 4));
        Check.refuses("file teller -1", Check.INDEX, () -> bench.file(-1, 0, 0));
        Check.refuses("file teller 8", Check.INDEX, () -> bench.file(8, 0, 2));
        Check.refuses("file firm -1", Check.INDEX, () -> bench.file(0, -1, 0));
        Check.refuses("file firm 6", Check.INDEX, () -> bench.file(0, 6, 2));
        Check.refuses("file facts 0", Check.ARGUMENT, () -> bench.file(0, 0, 0));
        Check.refuses("file facts -1", Check.ARGUMENT, () -> bench.file(7, 0, -1));
        Check.refuses("file facts 65536", Check.ARGUMENT, () -> bench.file(7, 0, 65536));
        Check.refuses("file an unknown fact", Check.STATE, () -> bench.file(0, 0, 3));
        Check.refuses("file what another one knows", Check.STATE, () -> bench.file(0, 0, 4));
        bench.publish(2);
        Check.refuses("file what is public, but not known", Check.STATE, () -> bench.file(0, 0, 4));
        Check.refuses("refused suits are none", Check.INDEX, () -> bench.due(2));
        bench.learn(0, 2);
        Check.is("file what was learned today", 2, bench.file(0, 0, 6));
    }

    private static void suitsAreFull() {
        Check.promise("file");
        RelatorsBench bench = new RelatorsBench();
        bench.learn(0, 0);
        for (int i = 0; i < 12; i++) {
            Check.is("suit " + i, i, bench.file(0, i % 6, 1));
        }
        Check.refuses("suit 13", Check.STATE, () -> bench.file(0, 0, 1));
        Check.refuses("file range ahead of full", Check.ARGUMENT, () -> bench.file(0, 0, 0));
        Check.refuses("file firm ahead of full", Check.INDEX, () -> bench.file(0, 6, 1));
    }

    private static void amend() {
        Check.promise("amend");
        RelatorsBench bench = Runs.suedScheme(RelatorsBench.BY_FACT);
        Runs.learnAll(bench, 1);
        bench.learn(0, 1);
        bench.learn(0, 15);
        Check.is("amend", 2, bench.amend(0, 2));
        Check.is("amend by what it has", 2, bench.amend(0, 3));
        Check.is("those that it has stay", 3, bench.amend(0, 32768));
        Check.is("its facts", 32771, bench.ofSuit(0, 2));
        Check.refuses("amend -1", Check.INDEX, () -> bench.amend(-1, 0));
        Check.refuses("amend 1", Check.INDEX, () -> bench.amend(1, 1));
        Check.refuses("amend by 0", Check.ARGUMENT, () -> bench.amend(0, 0));
        Check.refuses("amend by 65536", Check.ARGUMENT, () -> bench.amend(0, 65536));
        Check.refuses("amend by what another one knows", Check.STATE, () -> bench.amend(0, 7));
        Check.is("a refused amendment adds nothing", 32771, bench.ofSuit(0, 2));
        bench.choose(0, JOINED);
        Check.is("amend as joined", 3, bench.amend(0, 1));
        bench.judge(0);
        Check.refuses("amend as won", Check.STATE, () -> bench.amend(0, 1));
        Check.refuses("amend range ahead of state", Check.ARGUMENT, () -> bench.amend(0, 0));
        bench.file(0, 0, 1);
        bench.choose(1, DECLINED);
        Check.is("amend as declined", 2, bench.amend(1, 2));
        bench.choose(1, DISMISSED);
        Check.refuses("amend as dismissed", Check.STATE, () -> bench.amend(1, 1));
    }

    private static void amendmentsAreFull() {
        Check.promise("amend");
        RelatorsBench bench = Runs.suedScheme(RelatorsBench.BY_FACT);
        bench.learn(0, 1);
        bench.file(0, 1, 1);
        for (int i = 0; i < 40; i++) {
            Check.is("amendment " + i, 1, bench.amend(i % 2, 1));
            Check.refuses("an unknown fact", Check.STATE, () -> bench.amend(0, 4));
            bench.pass(1);
        }
        Check.refuses("amendment 41", Check.STATE, () -> bench.amend(0, 2));
        Check.refuses("amendment 41 of another suit", Check.STATE, () -> bench.amend(1, 2));
        Check.refuses("amend range ahead of full", Check.ARGUMENT, () -> bench.amend(0, 0));
        Check.is("nothing is added", 1, bench.ofSuit(0, 2));
    }

    private static void extend() {
        Check.promise("extend");
        RelatorsBench bench = Runs.suedScheme(RelatorsBench.BY_FACT);
        Check.is("sixty days, with the first", 60, bench.ofSuit(0, 5));
        Check.is("extend", 90, bench.extend(0));
        bench.pass(89);
        Check.is("sealed on the last day", 1, bench.all(3));
        Check.is("extend on the last day", 120, bench.extend(0));
        Check.is("extend a third time", 150, bench.extend(0));
        Check.is("extend a fourth time", 180, bench.extend(0));
        Check.refuses("extend a fifth time", Check.STATE, () -> bench.extend(0));
        Check.is("a refused one adds nothing", 180, bench.ofSuit(0, 5));
        bench.pass(90);
        Check.is("sealed on day 179", 1, bench.all(3));
        bench.pass(1);
        Check.is("not sealed on day 180", 0, bench.all(3));
        Check.refuses("extend -1", Check.INDEX, () -> bench.extend(-1));
        Check.refuses("extend 1", Check.INDEX, () -> bench.extend(1));
    }

    private static void extendRefused() {
        Check.promise("extend");
        RelatorsBench bench = Runs.suedScheme(RelatorsBench.BY_FACT);
        bench.file(0, 0, 1);
        bench.choose(1, DECLINED);
        Check.refuses("extend as declined", Check.STATE, () -> bench.extend(1));
        bench.pass(60);
        Check.refuses("extend when the seal is over", Check.STATE, () -> bench.extend(0));
        Check.is("its day stays", 60, bench.ofSuit(0, 5));
    }

    private static void choose() {
        Check.promise("choose");
        RelatorsBench bench = Runs.suedScheme(RelatorsBench.BY_FACT);
        Check.is("decline", RelatorsBench.OPEN, bench.choose(0, DECLINED));
        Check.is("decline again", DECLINED, bench.choose(0, DECLINED));
        Check.is("join after that", DECLINED, bench.choose(0, JOINED));
        Check.is("join again", JOINED, bench.choose(0, JOINED));
        Check.refuses("decline as joined", Check.STATE, () -> bench.choose(0, DECLINED));
        Check.is("it stays joined", JOINED, bench.ofSuit(0, 4));
        Check.is("dismiss as joined", JOINED, bench.choose(0, DISMISSED));
        bench.file(0, 0, 1);
        Check.is("dismiss at once", RelatorsBench.OPEN, bench.choose(1, DISMISSED));
        bench.file(0, 0, 1);
        bench.choose(2, DECLINED);
        Check.is("dismiss as declined", DECLINED, bench.choose(2, DISMISSED));
    }

    private static void chooseRefused() {
        Check.promise("choose");
        RelatorsBench bench = Runs.suedScheme(RelatorsBench.BY_FACT);
        Check.refuses("choose -1", Check.INDEX, () -> bench.choose(-1, 0));
        Check.refuses("choose 1", Check.INDEX, () -> bench.choose(1, 1));
        Check.refuses("choose OPEN", Check.ARGUMENT, () -> bench.choose(0, RelatorsBench.OPEN));
        Check.refuses("choose WON", Check.ARGUMENT, () -> bench.choose(0, WON));
        bench.file(0, 0, 1);
        bench.choose(0, DISMISSED);
        bench.choose(1, JOINED);
        bench.judge(1);
        for (int choice = JOINED; choice <= DISMISSED; choice++) {
            int tried = choice;
            Check.refuses("choose as dismissed", Check.STATE, () -> bench.choose(0, tried));
            Check.refuses("choose as won", Check.STATE, () -> bench.choose(1, tried));
        }
        Check.refuses("choose range ahead of state", Check.ARGUMENT, () -> bench.choose(0, 4));
    }

    private static void chooseEndsTheSeal() {
        Check.promise("choose");
        RelatorsBench bench = Runs.suedScheme(RelatorsBench.BY_FACT);
        bench.file(0, 0, 1);
        bench.file(0, 0, 1);
        bench.extend(1);
        bench.pass(59);
        bench.choose(0, DECLINED);
        Check.is("not sealed from that day", 59, bench.ofSuit(0, 5));
        bench.pass(5);
        bench.choose(0, JOINED);
        bench.choose(1, DISMISSED);
        bench.choose(2, JOINED);
        Check.is("the first choice ended it", 59, bench.ofSuit(0, 5));
        Check.is("earlier than its extended end", 64, bench.ofSuit(1, 5));
        Check.is("it had ended by itself", 60, bench.ofSuit(2, 5));
    }

    private static void help() {
        Check.promise("help");
        RelatorsBench bench = Runs.suedScheme(RelatorsBench.BY_FACT);
        Check.is("help at first", 0, bench.help(0, 10));
        Check.is("help before", 10, bench.help(0, 3));
        Check.is("open suits have no hundredths", 0, bench.ofSuit(0, 9));
        bench.choose(0, DECLINED);
        Check.is("declined: 25 and half", 26, bench.ofSuit(0, 9));
        bench.help(0, 10);
        Check.is("declined: 25 and half of the most", 30, bench.ofSuit(0, 9));
        bench.choose(0, JOINED);
        Check.is("joined: 15 and all", 25, bench.ofSuit(0, 9));
        Check.is("help down", 10, bench.help(0, 0));
        Check.is("joined: 15", 15, bench.ofSuit(0, 9));
        Check.refuses("help suit -1", Check.INDEX, () -> bench.help(-1, -1));
        Check.refuses("help suit 1", Check.INDEX, () -> bench.help(1, 11));
        Check.refuses("help -1", Check.ARGUMENT, () -> bench.help(0, -1));
        Check.refuses("help 11", Check.ARGUMENT, () -> bench.help(0, 11));
        Check.is("refused help is not told", 0, bench.ofSuit(0, 6));
        bench.judge(0);
        Check.refuses("help as won", Check.STATE, () -> bench.help(0, 1));
        bench.file(0, 0, 1);
        bench.choose(1, DISMISSED);
        Check.refuses("help as dismissed", Check.STATE, () -> bench.help(1, 1));
        Check.refuses("help range ahead of state", Check.ARGUMENT, () -> bench.help(1, 11));
    }

    private static void judge() {
        Check.promise("judge");
        RelatorsBench bench = Runs.suedClaim(1000, 100);
        Check.refuses("judge -1", Check.INDEX, () -> bench.judge(-1));
        Check.refuses("judge 1", Check.INDEX, () -> bench.judge(1));
        Check.refuses("judge an open one", Check.STATE, () -> bench.judge(0));
        bench.choose(0, JOINED);
        bench.help(0, 4);
        Check.is("judge", 320, bench.judge(0));
        Check.is("it is won", WON, bench.ofSuit(0, 4));
        Check.is("what was paid", 320, bench.ofSuit(0, 7));
        Check.is("the share of that", 60, bench.ofSuit(0, 8));
        Check.is("its hundredths", 19, bench.ofSuit(0, 9));
        Check.is("the firm paid", 680, bench.ofFirm(0, 0));
        Check.is("the firm paid by suits", 320, bench.ofFirm(0, 2));
        Check.is("the teller has the share", 60, bench.got(0, 0));
        Check.is("the state has the rest", 260, bench.all(1));
        bench.plan(0, 0);
        Check.is("its hundredths stay as they were", 19, bench.ofSuit(0, 9));
        Check.refuses("judge it again", Check.STATE, () -> bench.judge(0));
        bench.file(0, 0, 1);
        bench.choose(1, DISMISSED);
        Check.refuses("judge a dismissed one", Check.STATE, () -> bench.judge(1));
    }

    private static void judgePoor() {
        Check.promise("judge");
        RelatorsBench bench = Runs.suedClaim(319, 100);
        bench.choose(0, DECLINED);
        Check.is("all that it has", 319, bench.judge(0));
        Check.is("nothing is left", 0, bench.ofFirm(0, 0));
        bench.claim(0, 100);
        bench.file(0, 0, 1);
        bench.choose(1, JOINED);
        Check.is("the won one is first", 2, bench.bars(1, 0));
        Check.is("barred, nothing is due", 0, bench.judge(1));
        Check.is("and no claim is paid for", RelatorsBench.NONE, bench.ofClaim(1, 3));
        Check.is("hundredths of nothing", 15, bench.ofSuit(1, 9));
    }

    private static void judgePaysClaims() {
        Check.promise("judge");
        RelatorsBench bench = Runs.suedScheme(RelatorsBench.BY_FACT);
        bench.scheme(1, 1, 0);
        bench.claim(0, 10);
        bench.claim(1, 10);
        bench.pass(1);
        bench.know(0);
        bench.claim(0, 10);
        bench.choose(0, JOINED);
        Check.is("no false one in the sample", 0, bench.judge(0));
        Check.is("a claim that counts is paid for", 0, bench.ofClaim(0, 3));
        Check.is("one of another scheme is not", RelatorsBench.NONE, bench.ofClaim(1, 3));
        Check.is("one that the state paid knowing is not", RelatorsBench.NONE, bench.ofClaim(2, 3));
    }

    private static void settle() {
        Check.promise("settle");
        RelatorsBench bench = Runs.suedClaim(1000, 100);
        Check.refuses("settle -1", Check.INDEX, () -> bench.settle(-1, -1));
        Check.refuses("settle 1", Check.INDEX, () -> bench.settle(1, 0));
        Check.refuses("settle for -1", Check.ARGUMENT, () -> bench.settle(0, -1));
        Check.refuses("settle for too much", Check.ARGUMENT, () -> bench.settle(0, 100000001));
        Check.refuses("settle an open one", Check.STATE, () -> bench.settle(0, 320));
        bench.choose(0, DECLINED);
        Check.refuses("settle for more than it has", Check.STATE, () -> bench.settle(0, 1001));
        Check.refuses("settle for too little", Check.STATE, () -> bench.settle(0, 63));
        Check.is("nothing was paid", 1000, bench.ofFirm(0, 0));
        Check.is("settle for a fifth", 16, bench.settle(0, 64));
        Check.is("it is won", WON, bench.ofSuit(0, 4));
        Check.is("what was paid", 64, bench.ofSuit(0, 7));
        Check.is("the claim is paid for", 0, bench.ofClaim(0, 3));
        Check.is("the state has the rest", 48, bench.all(1));
        Check.refuses("settle it again", Check.STATE, () -> bench.settle(0, 64));
        Check.refuses("settle range ahead of state", Check.ARGUMENT, () -> bench.settle(0, -1));
        RelatorsBench joined = Runs.suedClaim(1000, 100);
        joined.choose(0, JOINED);
        Check.is("a joined one is settled for any sum", 0, joined.settle(0, 1));
        Check.is("the claim is paid for all the same", 0, joined.ofClaim(0, 3));
        RelatorsBench free = Runs.suedClaim(1000, 100);
        free.choose(0, JOINED);
        Check.is("or for none", 0, free.settle(0, 0));
        Check.is("which is won as well", WON, free.ofSuit(0, 4));
        RelatorsBench dismissed = Runs.suedClaim(1000, 100);
        dismissed.choose(0, DISMISSED);
        Check.refuses("settle a dismissed one", Check.STATE, () -> dismissed.settle(0, 320));
    }

    private static void settleLarge() {
        Check.promise("settle");
        RelatorsBench bench = Runs.suedScheme(RelatorsBench.BY_FACT);
        for (int i = 0; i < 100; i++) {
            bench.fund(0, 1000000);
        }
        bench.choose(0, DECLINED);
        bench.help(0, 10);
        Check.is("a share of the largest sum", 30000000, bench.settle(0, 100000000));
        Check.is("the state has the rest of it", 70000000, bench.all(1));
        Check.is("fund again", 1, bench.fund(0, 1));
        Check.is("all that it was given", 100000001, bench.ofFirm(0, 1));
    }
}
