import java.util.function.IntConsumer;
import java.util.function.IntFunction;
import java.util.function.ObjIntConsumer;
import java.util.function.Supplier;

/**
 * Promises 2 to 34: the least and the most that each argument may be pass, and what is beyond is refused; of numbers,
 * where there are none yet, the first and the last that there are. Each call is made on an object of its own.
 */
public final class BoundsTest {
    private static final Class<? extends RuntimeException> INDEX = Check.INDEX;
    private static final Class<? extends RuntimeException> ARGUMENT = Check.ARGUMENT;

    public static void main(String[] args) {
        firmsAndSchemes();
        whatIsKnown();
        deals();
        suits();
        suitsThatAreJoined();
        wages();
        days();
        askedOfSuitsAndSchemes();
        askedOfTheRest();
        Check.close();
    }

    /** The first that are refused, the ends, and what wraps around as a bit's number, a byte or a short. */
    private static int[] beyond(int least, int most) {
        return new int[] {least - 1, most + 1, least - 32, most + 32, most + 256, most + 65536,
            Integer.MIN_VALUE, Integer.MIN_VALUE + most, Integer.MAX_VALUE};
    }

    private static void range(String what, Class<? extends RuntimeException> refusal, int least, int most,
            IntConsumer call) {
        for (int value : new int[] {least, most}) {
            Check.passes(what + " " + value, () -> call.accept(value));
        }
        for (int value : beyond(least, most)) {
            Check.refuses(what + " " + value, refusal, () -> call.accept(value));
        }
    }

    private static void range(String what, Class<? extends RuntimeException> refusal, int least, int most,
            Supplier<RelatorsBench> begin, ObjIntConsumer<RelatorsBench> call) {
        range(what, refusal, least, most, value -> call.accept(begin.get(), value));
    }

    /** With none of what is numbered, with one, with two, and with the most that there may be. */
    private static void numbers(String what, int most, IntFunction<RelatorsBench> begin,
            ObjIntConsumer<RelatorsBench> call) {
        for (int many : new int[] {0, 1, 2, most}) {
            String where = what + " with " + many;
            for (int number : many == 0 ? new int[] {} : new int[] {0, many - 1}) {
                Check.passes(where + ": " + number, () -> call.accept(begin.apply(many), number));
            }
            for (int number : beyond(0, many - 1)) {
                Check.refuses(where + ": " + number, INDEX, () -> call.accept(begin.apply(many), number));
            }
        }
    }

    private static void firmsAndSchemes() {
        Check.promise("fund");
        range("firm", INDEX, 0, 5, RelatorsBench::new, (bench, firm) -> bench.fund(firm, 1));
        range("money", ARGUMENT, 1, 1000000, RelatorsBench::new, (bench, money) -> bench.fund(0, money));
        Check.promise("scheme");
        range("firm", INDEX, 0, 5, RelatorsBench::new, (bench, firm) -> bench.scheme(firm, 1, 0));
        range("facts", ARGUMENT, 1, 65535, RelatorsBench::new, (bench, facts) -> bench.scheme(0, facts, 0));
        range("ground", ARGUMENT, 0, 2, RelatorsBench::new, (bench, ground) -> bench.scheme(0, 1, ground));
        Check.promise("claim");
        numbers("scheme", 8, Runs::withSchemes, (bench, scheme) -> bench.claim(scheme, 1));
        range("amount", ARGUMENT, 1, 9999, () -> Runs.withSchemes(1), (bench, amount) -> bench.claim(0, amount));
        Check.promise("sample");
        numbers("scheme", 8, Runs::withSchemes, (bench, scheme) -> bench.sample(scheme, 1, 0));
        range("looked", ARGUMENT, 1, 100, () -> Runs.withSchemes(1), (bench, looked) -> bench.sample(0, looked, 0));
        range("looked, all wrong", ARGUMENT, 1, 100, () -> Runs.withSchemes(1),
                (bench, looked) -> bench.sample(0, looked, looked));
        for (int looked : new int[] {1, 2, 99, 100}) {
            range("wrong of " + looked, ARGUMENT, 0, looked, () -> Runs.withSchemes(1),
                    (bench, wrong) -> bench.sample(0, looked, wrong));
        }
    }

    private static void whatIsKnown() {
        Check.promise("learn");
        range("teller", INDEX, 0, 7, RelatorsBench::new, (bench, teller) -> bench.learn(teller, 0));
        range("fact", INDEX, 0, 15, RelatorsBench::new, (bench, fact) -> bench.learn(0, fact));
        Check.promise("publish");
        range("fact", INDEX, 0, 15, RelatorsBench::new, RelatorsBench::publish);
        Check.promise("plan");
        range("teller", INDEX, 0, 7, () -> Runs.withSchemes(1), (bench, teller) -> bench.plan(teller, 0));
        numbers("scheme", 8, Runs::withSchemes, (bench, scheme) -> bench.plan(0, scheme));
        Check.promise("know");
        numbers("scheme", 8, Runs::withSchemes, RelatorsBench::know);
        Check.promise("admit");
        numbers("scheme", 8, Runs::withSchemes, RelatorsBench::admit);
    }

    private static void deals() {
        Check.promise("deal");
        range("teller", INDEX, 0, 7, RelatorsBench::new, (bench, teller) -> bench.deal(teller, teller == 0 ? 1 : 0, 1));
        range("other", INDEX, 0, 7, RelatorsBench::new, (bench, other) -> bench.deal(other == 0 ? 1 : 0, other, 1));
        range("hundredths", ARGUMENT, 1, 100, RelatorsBench::new, (bench, hundredths) -> bench.deal(0, 1, hundredths));
        for (int same = 0; same < 8; same++) {
            int teller = same;
            Check.refuses("both are " + same, ARGUMENT, () -> new RelatorsBench().deal(teller, teller, 1));
        }
        for (int same : new int[] {-1, 8}) {
            Check.refuses("both are " + same, INDEX, () -> new RelatorsBench().deal(same, same, 1));
        }
    }

    private static void suits() {
        Check.promise("file");
        range("teller", INDEX, 0, 7, value -> {
            RelatorsBench bench = new RelatorsBench();
            for (int teller = 0; teller < 8; teller++) {
                bench.learn(teller, 0);
            }
            bench.file(value, 0, 1);
        });
        range("firm", INDEX, 0, 5, () -> Runs.withSchemes(0), (bench, firm) -> bench.file(0, firm, 1));
        range("facts", ARGUMENT, 1, 65535, () -> Runs.withSchemes(0), (bench, facts) -> bench.file(0, 0, facts));
        Check.promise("amend");
        numbers("suit", 12, Runs::withSuits, (bench, suit) -> bench.amend(suit, 1));
        range("facts", ARGUMENT, 1, 65535, () -> Runs.withSuits(1), (bench, facts) -> bench.amend(0, facts));
        Check.promise("extend");
        numbers("suit", 12, Runs::withSuits, RelatorsBench::extend);
        Check.promise("choose");
        numbers("suit", 12, Runs::withSuits, (bench, suit) -> bench.choose(suit, RelatorsBench.JOINED));
        range("choice", ARGUMENT, 1, 3, () -> Runs.withSuits(1), (bench, choice) -> bench.choose(0, choice));
        Check.promise("help");
        numbers("suit", 12, Runs::withSuits, (bench, suit) -> bench.help(suit, 1));
        range("help", ARGUMENT, 0, 10, () -> Runs.withSuits(1), (bench, help) -> bench.help(0, help));
    }

    private static void suitsThatAreJoined() {
        Check.promise("judge");
        numbers("suit", 12, Runs::withJoined, RelatorsBench::judge);
        Check.promise("settle");
        numbers("suit", 12, Runs::withJoined, (bench, suit) -> bench.settle(suit, 0));
        range("sum", ARGUMENT, 0, 100000000, value -> {
            RelatorsBench bench = Runs.withJoined(1);
            Runs.enrich(bench);
            bench.settle(0, value);
        });
    }

    /** All tellers work for a firm that knows that they tell. */
    private static RelatorsBench workers(int firm) {
        RelatorsBench bench = new RelatorsBench();
        for (int teller = 0; teller < 8; teller++) {
            bench.work(teller, firm, 1);
            bench.tell(firm, teller);
        }
        return bench;
    }

    private static RelatorsBench fired(int firm) {
        RelatorsBench bench = workers(firm);
        for (int teller = 0; teller < 8; teller++) {
            bench.fire(firm, teller);
        }
        return bench;
    }

    private static int aFirm(int value) {
        return value < 0 || value > 5 ? 0 : value;
    }

    private static void wages() {
        Check.promise("work");
        range("teller", INDEX, 0, 7, RelatorsBench::new, (bench, teller) -> bench.work(teller, 0, 1));
        range("firm", INDEX, 0, 5, RelatorsBench::new, (bench, firm) -> bench.work(0, firm, 1));
        range("wage", ARGUMENT, 0, 999, RelatorsBench::new, (bench, wage) -> bench.work(0, 0, wage));
        Check.promise("tell");
        range("firm", INDEX, 0, 5, RelatorsBench::new, (bench, firm) -> bench.tell(firm, 0));
        range("teller", INDEX, 0, 7, RelatorsBench::new, (bench, teller) -> bench.tell(0, teller));
        Check.promise("fire");
        range("firm", INDEX, 0, 5, firm -> workers(aFirm(firm)).fire(firm, 0));
        range("teller", INDEX, 0, 7, teller -> workers(0).fire(0, teller));
        Check.promise("award");
        range("firm", INDEX, 0, 5, firm -> fired(aFirm(firm)).award(firm, 0));
        range("teller", INDEX, 0, 7, teller -> fired(0).award(0, teller));
    }

    private static void days() {
        Check.promise("pass");
        range("days", ARGUMENT, 1, 300, RelatorsBench::new, RelatorsBench::pass);
        for (int days : new int[] {1, 2, 299, 300}) {
            RelatorsBench bench = new RelatorsBench();
            Runs.pass(bench, 3001 - days);
            Check.refuses("one day above the last by " + days, Check.STATE, () -> bench.pass(days));
            RelatorsBench other = new RelatorsBench();
            Runs.pass(other, 3000 - days);
            Check.is("the last day by " + days, 3000, other.pass(days));
        }
    }

    /** One suit, and so many schemes. */
    private static RelatorsBench suedSchemes(int many) {
        RelatorsBench bench = Runs.withSchemes(many);
        bench.file(0, 0, 1);
        return bench;
    }

    private static void askedOfSuitsAndSchemes() {
        Check.promise("covers");
        numbers("suit", 12, Runs::withSuits, (bench, suit) -> bench.covers(suit, 0));
        numbers("scheme", 8, BoundsTest::suedSchemes, (bench, scheme) -> bench.covers(0, scheme));
        Check.promise("bars");
        numbers("suit", 12, Runs::withSuits, (bench, suit) -> bench.bars(suit, 0));
        numbers("scheme", 8, BoundsTest::suedSchemes, (bench, scheme) -> bench.bars(0, scheme));
        Check.promise("first");
        numbers("scheme", 8, Runs::withSchemes, RelatorsBench::first);
        Check.promise("firstAnew");
        numbers("scheme", 8, Runs::withSchemes, RelatorsBench::firstAnew);
        Check.promise("due");
        numbers("suit", 12, Runs::withSuits, RelatorsBench::due);
        Check.promise("sees");
        range("teller", INDEX, 0, 7, () -> Runs.withSuits(1), (bench, teller) -> bench.sees(teller, 0));
        numbers("suit", 12, Runs::withSuits, (bench, suit) -> bench.sees(0, suit));
        Check.promise("ofSuit");
        for (int what = 0; what < 10; what++) {
            int asked = what;
            numbers("suit, " + what, 12, Runs::withSuits, (bench, suit) -> bench.ofSuit(suit, asked));
        }
        range("what", INDEX, 0, 9, () -> Runs.withSuits(1), (bench, what) -> bench.ofSuit(0, what));
    }

    private static void askedOfTheRest() {
        Check.promise("ofClaim");
        for (int what = 0; what < 4; what++) {
            int asked = what;
            numbers("claim, " + what, 40, Runs::withClaims, (bench, claim) -> bench.ofClaim(claim, asked));
        }
        range("what", INDEX, 0, 3, () -> Runs.withClaims(1), (bench, what) -> bench.ofClaim(0, what));
        Check.promise("got");
        range("teller", INDEX, 0, 7, RelatorsBench::new, (bench, teller) -> bench.got(teller, 0));
        range("what", INDEX, 0, 2, RelatorsBench::new, (bench, what) -> bench.got(0, what));
        Check.promise("ofFirm");
        range("firm", INDEX, 0, 5, RelatorsBench::new, (bench, firm) -> bench.ofFirm(firm, 0));
        range("what", INDEX, 0, 3, RelatorsBench::new, (bench, what) -> bench.ofFirm(0, what));
        Check.promise("all");
        range("what", INDEX, 0, 3, RelatorsBench::new, RelatorsBench::all);
    }
}
