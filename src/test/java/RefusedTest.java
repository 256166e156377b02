import java.util.ArrayList;
import java.util.List;

/**
 * Promises 2 to 34: a refused call changes nothing that a later call shows, and neither does what is asked. Each such
 * call is put in at each place of two scripts, one object for each; all answers of the script, and all that can be
 * asked at its end, must be those of the script alone.
 */
public final class RefusedTest {
    private static final int JOINED = RelatorsBench.JOINED;
    private static final int DECLINED = RelatorsBench.DECLINED;
    private static final int DISMISSED = RelatorsBench.DISMISSED;
    private static final int MOST_CALLS = 512;

    private static final long INDEX = Long.MIN_VALUE;
    private static final long ARGUMENT = Long.MIN_VALUE + 1;
    private static final long STATE = Long.MIN_VALUE + 2;
    private static final long OTHER = Long.MIN_VALUE + 3;
    /** What is asked need not be refused. */
    private static final long ANSWERED = 0;

    /** Answers as a number; a boolean as 1 or 0. */
    private interface Step {
        long on(RelatorsBench bench);
    }

    private record Tried(String promise, String what, long due, Step step) { }

    private record Script(List<Step> steps, int places) { }

    public static void main(String[] args) {
        List<Script> scripts = List.of(ordinary(), full());
        for (Tried tried : tried()) {
            Check.promise(tried.promise);
            int many = 0;
            for (Script script : scripts) {
                many += tryIn(script, tried);
            }
            Check.is(tried.what + " was tried", true, many > 0);
        }
        Check.close();
    }

    private static long answer(Step step, RelatorsBench bench) {
        try {
            return step.on(bench);
        } catch (RuntimeException e) {
            switch (Check.nameOf(e)) {
                case "IndexOutOfBoundsException": return INDEX;
                case "IllegalArgumentException": return ARGUMENT;
                case "IllegalStateException": return STATE;
                default: return OTHER;
            }
        }
    }

    /** In how many places of the script the call was refused, or answered, in the way that it is here for. */
    private static int tryIn(Script script, Tried tried) {
        int many = 0;
        long[] alone = new long[script.steps.size()];
        RelatorsBench plain = new RelatorsBench();
        for (int i = 0; i < alone.length; i++) {
            alone[i] = answer(script.steps.get(i), plain);
        }
        for (int place = 0; place <= script.places; place++) {
            RelatorsBench bench = new RelatorsBench();
            for (int i = 0; i < place; i++) {
                answer(script.steps.get(i), bench);
            }
            long got = answer(tried.step, bench);
            boolean isRefused = got <= OTHER;
            many += got == tried.due || tried.due == ANSWERED && !isRefused ? 1 : 0;
            String what = tried.what + " ahead of step " + place;
            if (isRefused || tried.due == ANSWERED) {
                compare(what, script, place, alone, bench);
            } else {
                Check.is(what + " may be answered", true, tried.due == STATE);
            }
        }
        return many;
    }

    private static void compare(String what, Script script, int place, long[] alone, RelatorsBench bench) {
        int different = 0;
        for (int i = place; i < alone.length; i++) {
            different += answer(script.steps.get(i), bench) == alone[i] ? 0 : 1;
        }
        Check.is(what + ": later answers that differ", 0, different);
    }

    private static long asLong(boolean is) {
        return is ? 1 : 0;
    }

    /** Each kind of call, mostly twice. */
    private static Script ordinary() {
        List<Step> steps = new ArrayList<>(List.of(
                b -> b.fund(0, 5000), b -> b.fund(1, 70), b -> b.scheme(0, 0b0011, 0), b -> b.scheme(0, 0b1100, 1),
                b -> b.scheme(1, 0b1, 2), b -> b.claim(0, 100), b -> b.claim(1, 200), b -> b.claim(2, 300),
                b -> wrong(b, 0, 2, 1), b -> wrong(b, 1, 1, 1), b -> wrong(b, 2, 3, 1), b -> b.learn(0, 0),
                b -> b.learn(0, 2), b -> b.learn(0, 5), b -> b.learn(1, 0), b -> asLong(b.plan(1, 0)),
                b -> b.publish(2), b -> b.deal(0, 1, 30), b -> b.deal(0, 2, 70), b -> b.work(0, 0, 3),
                b -> b.work(1, 1, 9), b -> b.pass(2), b -> asLong(b.know(2)), b -> b.claim(2, 400),
                b -> b.deal(1, 0, 50)));
        steps.addAll(List.of(
                b -> b.file(0, 0, 0b101), b -> b.file(1, 1, 0b1), b -> b.file(1, 0, 0b1), b -> b.file(0, 2, 0b1),
                b -> asLong(b.admit(1)), b -> b.pass(1), b -> b.learn(0, 1), b -> b.amend(0, 0b10), b -> b.extend(0),
                b -> b.extend(0), b -> b.extend(0), b -> b.extend(0), b -> b.help(0, 7), b -> b.help(1, 3),
                b -> b.pass(59), b -> b.choose(0, DECLINED), b -> b.tell(1, 2), b -> b.choose(0, JOINED),
                b -> b.choose(2, DECLINED), b -> b.choose(3, DISMISSED), b -> asLong(b.fire(0, 0)), b -> b.pass(4),
                b -> b.choose(1, DECLINED), b -> asLong(b.fire(1, 1)), b -> b.work(1, 1, 20), b -> b.award(0, 0),
                b -> b.judge(0), b -> b.pass(2), b -> b.work(3, 2, 5), b -> asLong(b.fire(1, 1)), b -> b.pass(1),
                b -> b.settle(1, 0), b -> b.settle(1, 60), b -> b.work(0, 0, 8), b -> b.publish(1)));
        return ended(steps);
    }

    /** Every list is filled to its last place, the firm 0 has the most, and the last day comes. */
    private static Script full() {
        List<Step> steps = new ArrayList<>();
        for (int i = 0; i < 100; i++) {
            steps.add(b -> b.fund(0, 1000000));
        }
        steps.add(b -> b.learn(0, 0));
        steps.add(b -> b.learn(0, 1));
        for (int i = 0; i < 8; i++) {
            int firm = i % 3;
            steps.add(b -> b.scheme(firm, 1, firm));
        }
        for (int i = 0; i < 40; i++) {
            int scheme = i % 8;
            steps.add(b -> b.claim(scheme, 10));
        }
        for (int i = 0; i < 20; i++) {
            int teller = i % 2;
            steps.add(b -> b.deal(teller, 7, 1));
        }
        for (int i = 0; i < 12; i++) {
            int firm = i % 3;
            steps.add(b -> b.file(0, firm, 1));
        }
        for (int i = 0; i < 40; i++) {
            steps.add(b -> b.amend(1, 1));
        }
        for (int i = 0; i < 10; i++) {
            steps.add(b -> b.pass(300));
        }
        return ended(steps);
    }

    private static long wrong(RelatorsBench bench, int scheme, int looked, int wrong) {
        bench.sample(scheme, looked, wrong);
        return 0;
    }

    /** What can be asked of the first few of each, and then calls that show what can't be asked. */
    private static Script ended(List<Step> steps) {
        int places = steps.size();
        for (int i = 0; i < 4; i++) {
            int number = i;
            for (int what = 0; what < 10; what++) {
                int asked = what;
                steps.add(b -> b.ofSuit(number, asked));
            }
            for (int what = 0; what < 4; what++) {
                int asked = what;
                steps.add(b -> b.ofClaim(number, asked));
                steps.add(b -> b.ofFirm(number, asked));
                steps.add(b -> b.covers(asked, number));
                steps.add(b -> b.bars(asked, number));
            }
            for (int what = 0; what < 3; what++) {
                int asked = what;
                steps.add(b -> b.got(number, asked));
            }
            steps.add(b -> b.first(number));
            steps.add(b -> b.firstAnew(number));
            steps.add(b -> b.due(number));
            steps.add(b -> asLong(b.sees(1, number)));
            steps.add(b -> b.all(number));
        }
        steps.addAll(List.of(b -> b.got(7, 1), b -> b.ofClaim(39, 0), b -> b.ofSuit(11, 4), b -> b.first(7)));
        show(steps);
        Check.is("calls of a script fit", true, steps.size() < MOST_CALLS);
        return new Script(steps, places);
    }

    private static void show(List<Step> steps) {
        for (int i = 0; i < 3; i++) {
            int number = i;
            steps.add(b -> b.learn(number, 14));
            steps.add(b -> asLong(b.plan(1, number)));
            steps.add(b -> asLong(b.know(number)));
            steps.add(b -> asLong(b.admit(number)));
            steps.add(b -> b.help(number, 1));
            steps.add(b -> b.extend(number));
            steps.add(b -> b.award(number, 0));
            steps.add(b -> b.award(number, 1));
            steps.add(b -> asLong(b.fire(number, 1)));
            steps.add(b -> b.tell(number, 0));
            steps.add(b -> b.tell(number, 1));
            steps.add(b -> b.work(number, 5, 1));
        }
        steps.add(b -> b.publish(14));
        steps.add(b -> b.deal(0, 3, 1));
        steps.add(b -> b.deal(2, 3, 100));
        steps.add(b -> b.amend(2, 0b1));
        steps.add(b -> b.scheme(4, 1, 0));
        steps.add(b -> b.claim(0, 1));
        steps.add(b -> b.file(0, 4, 1));
        steps.add(b -> b.pass(1));
    }

    private static List<Tried> tried() {
        List<Tried> tried = new ArrayList<>();
        tried.addAll(ofSchemes());
        tried.addAll(ofKnowing());
        tried.addAll(ofDealsAndFiling());
        tried.addAll(ofSuits());
        tried.addAll(ofWinning());
        tried.addAll(ofWages());
        tried.addAll(asked());
        return tried;
    }

    private static List<Tried> ofSchemes() {
        return List.of(
                new Tried("fund", "no firm", INDEX, b -> b.fund(6, 1)),
                new Tried("fund", "no money", ARGUMENT, b -> b.fund(0, 0)),
                new Tried("fund", "too much", ARGUMENT, b -> b.fund(0, 1000001)),
                new Tried("fund", "above the most", STATE, b -> b.fund(0, 1000000)),
                new Tried("scheme", "no firm", INDEX, b -> b.scheme(6, 1, 0)),
                new Tried("scheme", "no facts", ARGUMENT, b -> b.scheme(0, 0, 0)),
                new Tried("scheme", "no ground", ARGUMENT, b -> b.scheme(0, 1, 3)),
                new Tried("scheme", "a ninth", STATE, b -> b.scheme(0, 1, 0)),
                new Tried("claim", "no scheme", INDEX, b -> b.claim(8, 1)),
                new Tried("claim", "no amount", ARGUMENT, b -> b.claim(0, 0)),
                new Tried("claim", "a forty-first", STATE, b -> b.claim(0, 1)),
                new Tried("sample", "no scheme", INDEX, b -> wrong(b, 8, 1, 1)),
                new Tried("sample", "none looked at", ARGUMENT, b -> wrong(b, 0, 0, 0)),
                new Tried("sample", "more wrong than looked at", ARGUMENT, b -> wrong(b, 0, 5, 6)));
    }

    private static List<Tried> ofKnowing() {
        return List.of(
                new Tried("learn", "no teller", INDEX, b -> b.learn(8, 0)),
                new Tried("learn", "no fact", INDEX, b -> b.learn(0, 16)),
                new Tried("learn", "a fact that wraps around to 0", INDEX, b -> b.learn(2, 32)),
                new Tried("publish", "no fact", INDEX, b -> b.publish(16)),
                new Tried("publish", "a fact that wraps around to 0", INDEX, b -> b.publish(-32)),
                new Tried("plan", "no teller", INDEX, b -> asLong(b.plan(8, 0))),
                new Tried("plan", "a teller who wraps around to 1", INDEX, b -> asLong(b.plan(33, 0))),
                new Tried("plan", "no scheme", INDEX, b -> asLong(b.plan(0, 8))),
                new Tried("know", "no scheme", INDEX, b -> asLong(b.know(8))),
                new Tried("admit", "no scheme", INDEX, b -> asLong(b.admit(8))),
                new Tried("admit", "in the open", STATE, b -> asLong(b.admit(0))));
    }

    private static List<Tried> ofDealsAndFiling() {
        return List.of(
                new Tried("deal", "no teller", INDEX, b -> b.deal(8, 0, 1)),
                new Tried("deal", "no other", INDEX, b -> b.deal(0, 8, 1)),
                new Tried("deal", "with oneself", ARGUMENT, b -> b.deal(0, 0, 1)),
                new Tried("deal", "no hundredths", ARGUMENT, b -> b.deal(0, 1, 0)),
                new Tried("deal", "more than all", STATE, b -> b.deal(0, 3, 100)),
                new Tried("deal", "a twenty-first", STATE, b -> b.deal(6, 3, 1)),
                new Tried("file", "no teller", INDEX, b -> b.file(8, 0, 1)),
                new Tried("file", "no firm", INDEX, b -> b.file(0, 6, 1)),
                new Tried("file", "no facts", ARGUMENT, b -> b.file(0, 0, 0)),
                new Tried("file", "not known", STATE, b -> b.file(0, 0, 0b1000001)),
                new Tried("file", "a thirteenth", STATE, b -> b.file(0, 0, 1)),
                new Tried("amend", "no suit", INDEX, b -> b.amend(12, 1)),
                new Tried("amend", "no facts", ARGUMENT, b -> b.amend(0, 0)),
                new Tried("amend", "not known", STATE, b -> b.amend(0, 0b1000001)),
                new Tried("amend", "dismissed", STATE, b -> b.amend(3, 0b100)),
                new Tried("amend", "won", STATE, b -> b.amend(0, 0b100000)),
                new Tried("amend", "a forty-first time", STATE, b -> b.amend(2, 0b10)));
    }

    private static List<Tried> ofSuits() {
        return List.of(
                new Tried("extend", "no suit", INDEX, b -> b.extend(12)),
                new Tried("extend", "a fifth time, or not sealed", STATE, b -> b.extend(0)),
                new Tried("extend", "not sealed", STATE, b -> b.extend(2)),
                new Tried("choose", "no suit", INDEX, b -> b.choose(12, JOINED)),
                new Tried("choose", "no choice", ARGUMENT, b -> b.choose(0, 4)),
                new Tried("choose", "joined as dismissed", STATE, b -> b.choose(3, JOINED)),
                new Tried("choose", "declined as joined", STATE, b -> b.choose(0, DECLINED)),
                new Tried("choose", "dismissed as won", STATE, b -> b.choose(0, DISMISSED)),
                new Tried("help", "no suit", INDEX, b -> b.help(12, 1)),
                new Tried("help", "too much", ARGUMENT, b -> b.help(0, 11)),
                new Tried("help", "dismissed", STATE, b -> b.help(3, 9)),
                new Tried("help", "won", STATE, b -> b.help(0, 9)));
    }

    private static List<Tried> ofWinning() {
        return List.of(
                new Tried("judge", "no suit", INDEX, b -> b.judge(12)),
                new Tried("judge", "open or won", STATE, b -> b.judge(0)),
                new Tried("judge", "open or dismissed", STATE, b -> b.judge(3)),
                new Tried("settle", "no suit", INDEX, b -> b.settle(12, 0)),
                new Tried("settle", "less than nothing", ARGUMENT, b -> b.settle(0, -1)),
                new Tried("settle", "open or won", STATE, b -> b.settle(0, 0)),
                new Tried("settle", "more than the firm has", STATE, b -> b.settle(1, 71)),
                new Tried("settle", "too little", STATE, b -> b.settle(1, 59)));
    }

    private static List<Tried> ofWages() {
        return List.of(
                new Tried("work", "no teller", INDEX, b -> b.work(8, 0, 1)),
                new Tried("work", "no firm", INDEX, b -> b.work(0, 6, 1)),
                new Tried("work", "no wage", ARGUMENT, b -> b.work(0, 4, -1)),
                new Tried("tell", "no firm", INDEX, b -> b.tell(6, 0)),
                new Tried("tell", "no teller", INDEX, b -> b.tell(0, 8)),
                new Tried("fire", "no firm", INDEX, b -> asLong(b.fire(6, 0))),
                new Tried("fire", "no teller", INDEX, b -> asLong(b.fire(0, 8))),
                new Tried("fire", "works for another one", STATE, b -> asLong(b.fire(0, 1))),
                new Tried("fire", "works for none", STATE, b -> asLong(b.fire(0, 0))),
                new Tried("award", "no firm", INDEX, b -> b.award(6, 0)),
                new Tried("award", "no teller", INDEX, b -> b.award(0, 8)),
                new Tried("award", "no firing", STATE, b -> b.award(1, 0)),
                new Tried("award", "none for telling, or had", STATE, b -> b.award(0, 0)),
                new Tried("pass", "no days", ARGUMENT, b -> b.pass(0)),
                new Tried("pass", "too many days", ARGUMENT, b -> b.pass(301)),
                new Tried("pass", "above the last day", STATE, b -> b.pass(1)));
    }

    /** What is asked, both answered and refused. */
    private static List<Tried> asked() {
        List<Tried> tried = new ArrayList<>(List.of(
                new Tried("covers", "covers", ANSWERED, b -> b.covers(0, 0)),
                new Tried("covers", "no suit", INDEX, b -> b.covers(12, 0)),
                new Tried("covers", "no scheme", INDEX, b -> b.covers(0, 8)),
                new Tried("bars", "bars", ANSWERED, b -> b.bars(0, 0)),
                new Tried("bars", "no suit", INDEX, b -> b.bars(12, 0)),
                new Tried("bars", "no scheme", INDEX, b -> b.bars(0, 8)),
                new Tried("first", "first", ANSWERED, b -> b.first(0)),
                new Tried("first", "no scheme", INDEX, b -> b.first(8)),
                new Tried("firstAnew", "firstAnew", ANSWERED, b -> b.firstAnew(0)),
                new Tried("firstAnew", "no scheme", INDEX, b -> b.firstAnew(8)),
                new Tried("due", "due", ANSWERED, b -> b.due(0)),
                new Tried("due", "no suit", INDEX, b -> b.due(12)),
                new Tried("sees", "sees", ANSWERED, b -> asLong(b.sees(1, 0))),
                new Tried("sees", "no teller", INDEX, b -> asLong(b.sees(8, 0))),
                new Tried("sees", "no suit", INDEX, b -> asLong(b.sees(0, 12)))));
        tried.addAll(List.of(
                new Tried("ofSuit", "ofSuit", ANSWERED, b -> b.ofSuit(0, 9)),
                new Tried("ofSuit", "no suit", INDEX, b -> b.ofSuit(12, 0)),
                new Tried("ofSuit", "nothing such", INDEX, b -> b.ofSuit(0, 10)),
                new Tried("ofClaim", "ofClaim", ANSWERED, b -> b.ofClaim(0, 3)),
                new Tried("ofClaim", "no claim", INDEX, b -> b.ofClaim(40, 0)),
                new Tried("ofClaim", "nothing such", INDEX, b -> b.ofClaim(0, 4)),
                new Tried("got", "got", ANSWERED, b -> b.got(0, 0)),
                new Tried("got", "no teller", INDEX, b -> b.got(8, 0)),
                new Tried("got", "nothing such", INDEX, b -> b.got(0, 3)),
                new Tried("ofFirm", "ofFirm", ANSWERED, b -> b.ofFirm(0, 0)),
                new Tried("ofFirm", "no firm", INDEX, b -> b.ofFirm(6, 0)),
                new Tried("ofFirm", "nothing such", INDEX, b -> b.ofFirm(0, 4)),
                new Tried("all", "all", ANSWERED, b -> b.all(3)),
                new Tried("all", "nothing such", INDEX, b -> b.all(4))));
        return tried;
    }
}
