import java.util.List;

/**
 * Promises 2 to 23: where several exceptions apply, the one that the throws clause names first is thrown. Each call is
 * made with every choice of what stands in its way, each time on an object of its own.
 */
public final class OrderTest {
    private static final Class<? extends RuntimeException> INDEX = Check.INDEX;
    private static final Class<? extends RuntimeException> ARGUMENT = Check.ARGUMENT;
    private static final Class<? extends RuntimeException> STATE = Check.STATE;
    private static final int JOINED = RelatorsBench.JOINED;
    private static final int DECLINED = RelatorsBench.DECLINED;
    private static final int DISMISSED = RelatorsBench.DISMISSED;

    /** A call in whose way stands what of the conditions is chosen. */
    private interface Call {
        void with(boolean[] chosen);
    }

    public static void main(String[] args) {
        fund();
        scheme();
        claim();
        sample();
        admit();
        deal();
        file();
        amend();
        extend();
        choose();
        help();
        judge();
        settle();
        work();
        fire();
        award();
        pass();
        Check.close();
    }

    /** The conditions' exceptions stand in the order of the throws clause. */
    private static void order(String promise, List<Class<? extends RuntimeException>> conditions, Call call) {
        Check.promise(promise);
        int many = conditions.size();
        for (int set = 0; set < 1 << many; set++) {
            boolean[] chosen = new boolean[many];
            Class<? extends RuntimeException> due = null;
            for (int i = many - 1; i >= 0; i--) {
                chosen[i] = (set >> i & 1) == 1;
                due = chosen[i] ? conditions.get(i) : due;
            }
            String what = "what stands in its way is " + Integer.toBinaryString(set);
            if (due == null) {
                Check.passes(what, () -> call.with(chosen));
            } else {
                Check.refuses(what, due, () -> call.with(chosen));
            }
        }
    }

    private static void fund() {
        order("fund", List.of(INDEX, ARGUMENT, STATE), chosen -> {
            RelatorsBench bench = new RelatorsBench();
            if (chosen[2]) {
                Runs.enrich(bench);
            }
            bench.fund(chosen[0] ? 6 : 0, chosen[1] ? 1000001 : 1);
        });
    }

    private static void scheme() {
        order("scheme", List.of(INDEX, ARGUMENT, ARGUMENT, STATE), chosen ->
                Runs.withSchemes(chosen[3] ? 8 : 7).scheme(chosen[0] ? -1 : 5, chosen[1] ? 0 : 1, chosen[2] ? 3 : 2));
    }

    private static void claim() {
        order("claim", List.of(INDEX, ARGUMENT, STATE), chosen ->
                Runs.withClaims(chosen[2] ? 40 : 39).claim(chosen[0] ? 1 : 0, chosen[1] ? 0 : 1));
    }

    private static void sample() {
        order("sample", List.of(INDEX, ARGUMENT, ARGUMENT), chosen ->
                Runs.withSchemes(1).sample(chosen[0] ? 1 : 0, chosen[1] ? 101 : 100, chosen[2] ? -1 : 0));
    }

    private static void admit() {
        order("admit", List.of(INDEX, STATE), chosen -> {
            RelatorsBench bench = Runs.withSuits(1);
            if (chosen[1]) {
                bench.choose(0, DECLINED);
            }
            bench.admit(chosen[0] ? 1 : 0);
        });
    }

    /** No such teller, no such other one, both the same, hundredths out of range, 20 deals, more than 100 in all. */
    private static void deal() {
        order("deal", List.of(INDEX, INDEX, ARGUMENT, ARGUMENT, STATE, STATE), chosen -> {
            RelatorsBench bench = new RelatorsBench();
            bench.deal(0, 1, chosen[5] ? 100 : 99);
            for (int i = 1; i < (chosen[4] ? 20 : 19); i++) {
                bench.deal(2, 3, 1);
            }
            int teller = chosen[0] ? 8 : 0;
            int other = chosen[2] ? teller : 1;
            bench.deal(teller, chosen[1] ? -1 : other, chosen[3] ? 101 : 1);
        });
        Check.refuses("both are the same, and there are none such", INDEX, () -> new RelatorsBench().deal(8, 8, 0));
    }

    /** No such teller, no such firm, facts out of range, one of them not known, 12 suits. */
    private static void file() {
        order("file", List.of(INDEX, INDEX, ARGUMENT, STATE, STATE), chosen -> {
            RelatorsBench bench = Runs.withSuits(chosen[4] ? 12 : 11);
            int teller = chosen[3] ? 1 : 0;
            bench.file(chosen[0] ? 8 : teller, chosen[1] ? 6 : 0, chosen[2] ? 65536 : 1);
        });
    }

    /** No such suit, facts out of range, dismissed, one of them not known, 40 amendments. */
    private static void amend() {
        order("amend", List.of(INDEX, ARGUMENT, STATE, STATE, STATE), chosen -> {
            RelatorsBench bench = new RelatorsBench();
            bench.learn(0, 0);
            bench.file(0, 0, 1);
            for (int i = 0; i < (chosen[4] ? 40 : 39); i++) {
                bench.amend(0, 1);
            }
            if (chosen[2]) {
                bench.choose(0, DISMISSED);
            }
            int facts = chosen[3] ? 2 : 1;
            bench.amend(chosen[0] ? 1 : 0, chosen[1] ? 0 : facts);
        });
    }

    private static void extend() {
        order("extend", List.of(INDEX, STATE, STATE), chosen -> {
            RelatorsBench bench = Runs.withSuits(1);
            for (int i = 0; i < (chosen[2] ? 4 : 3); i++) {
                bench.extend(0);
            }
            if (chosen[1]) {
                bench.choose(0, JOINED);
            }
            bench.extend(chosen[0] ? 1 : 0);
        });
    }

    /** No such suit, choice out of range, dismissed; or, of the second kind, to be declined as it is joined. */
    private static void choose() {
        order("choose", List.of(INDEX, ARGUMENT, STATE), chosen -> {
            RelatorsBench bench = Runs.withSuits(1);
            if (chosen[2]) {
                bench.choose(0, DISMISSED);
            }
            bench.choose(chosen[0] ? 1 : 0, chosen[1] ? 4 : DECLINED);
        });
        order("choose", List.of(INDEX, ARGUMENT, STATE), chosen -> {
            int choice = chosen[2] ? DECLINED : JOINED;
            Runs.withJoined(1).choose(chosen[0] ? -1 : 0, chosen[1] ? 0 : choice);
        });
    }

    private static void help() {
        order("help", List.of(INDEX, ARGUMENT, STATE), chosen -> {
            RelatorsBench bench = Runs.withJoined(1);
            if (chosen[2]) {
                bench.judge(0);
            }
            bench.help(chosen[0] ? 1 : 0, chosen[1] ? 11 : 10);
        });
    }

    private static void judge() {
        order("judge", List.of(INDEX, STATE), chosen -> {
            RelatorsBench bench = chosen[1] ? Runs.withSuits(1) : Runs.withJoined(1);
            bench.judge(chosen[0] ? 1 : 0);
        });
    }

    /** No such suit, sum out of range, not declined, the firm has not so much, too little. */
    private static void settle() {
        order("settle", List.of(INDEX, ARGUMENT, STATE, STATE, STATE), chosen -> {
            RelatorsBench bench = Runs.suedClaim(chosen[3] ? 50 : 1000, 100);
            if (!chosen[2]) {
                bench.choose(0, DECLINED);
            }
            // 64 are a fifth of what is due.
            int sum = chosen[4] ? 63 : 64;
            bench.settle(chosen[0] ? 1 : 0, chosen[1] ? 100000001 : sum);
        });
    }

    private static void work() {
        order("work", List.of(INDEX, INDEX, ARGUMENT), chosen ->
                new RelatorsBench().work(chosen[0] ? 8 : 7, chosen[1] ? 6 : 5, chosen[2] ? 1000 : 999));
    }

    private static void fire() {
        order("fire", List.of(INDEX, INDEX, STATE), chosen -> {
            RelatorsBench bench = new RelatorsBench();
            bench.work(0, chosen[2] ? 1 : 0, 1);
            bench.fire(chosen[0] ? 6 : 0, chosen[1] ? 8 : 0);
        });
    }

    private static void award() {
        order("award", List.of(INDEX, INDEX, STATE), chosen -> {
            RelatorsBench bench = new RelatorsBench();
            bench.tell(chosen[2] ? 1 : 0, 0);
            bench.work(0, 0, 1);
            bench.fire(0, 0);
            bench.award(chosen[0] ? -1 : 0, chosen[1] ? -1 : 0);
        });
    }

    private static void pass() {
        order("pass", List.of(ARGUMENT, STATE), chosen -> {
            RelatorsBench bench = new RelatorsBench();
            Runs.pass(bench, chosen[1] ? 3000 : 2700);
            bench.pass(chosen[0] ? 301 : 300);
        });
        RelatorsBench last = new RelatorsBench();
        Runs.pass(last, 3000);
        Check.refuses("no day, on the last day", ARGUMENT, () -> last.pass(0));
        Check.refuses("so many days that they wrap around", ARGUMENT, () -> last.pass(Integer.MAX_VALUE));
    }
}
