import java.util.ArrayList;
import java.util.List;
import java.util.Random;
import java.util.TreeMap;
import java.util.function.IntSupplier;

/**
 * Runs of 512 calls, the same each time, on the bench and on the ToldBench: each call must answer or throw alike, and
 * now and then all that can be asked must be alike, so that a call that throws has changed nothing.
 */
public final class RandomRunsTest {
    private static final int RUNS = 100;
    private static final int CALLS = 512;
    private static final int ODD = 25;

    private final Random random;
    private final RelatorsBench bench = new RelatorsBench();
    private final ToldBench told = new ToldBench();
    private final TreeMap<String, Integer> seen;
    private final int firms;
    private final int tellers;
    private final int facts;
    private final int longestPass;
    private final int publishing;
    private final int richest;
    private String call = "";
    private int schemes = 0;
    private int suits = 0;

    private RandomRunsTest(int seed, TreeMap<String, Integer> seen) {
        this.random = new Random(seed);
        this.seen = seen;
        this.firms = 1 + random.nextInt(random.nextBoolean() ? 1 : 3);
        this.tellers = 2 + random.nextInt(7);
        this.facts = 2 + random.nextInt(random.nextBoolean() ? 5 : 15);
        this.longestPass = random.nextBoolean() ? 20 : 300;
        this.publishing = random.nextBoolean() ? 1 : 10;
        this.richest = random.nextInt(3) == 0 ? 100 : 1000000;
    }

    public static void main(String[] args) {
        TreeMap<String, Integer> seen = new TreeMap<>();
        for (int seed = 0; seed < RUNS; seed++) {
            RandomRunsTest run = new RandomRunsTest(seed, seen);
            run.begin();
            for (int i = 0; i < CALLS; i++) {
                run.step("run " + seed + " call " + i + ": ");
                if (i % 128 == 127) {
                    run.askAll("run " + seed + " after call " + i + ": ");
                }
            }
        }
        for (int bar = 0; bar <= 3; bar++) {
            Check.is("enough of bars " + bar, true, seen.getOrDefault("bars=" + bar, 0) > 50);
        }
        for (String word : new String[] {"judge>0", "settle>0", "settle!", "award>0", "admit!", "fire=1", "due>0"}) {
            Check.is("enough of " + word, true, seen.getOrDefault(word, 0) > 30);
        }
        Check.close();
    }

    /** Much is told at first in most runs; otherwise most suits would be refused, and few would be paid for. */
    private void begin() {
        for (int i = random.nextInt(3); i > 0; i--) {
            int set = someFacts(4) & 65535 | 1;
            bench.scheme(0, set, 0);
            told.scheme(0, set, 0);
            bench.sample(schemes, 4, 3);
            told.sample(schemes, 4, 3);
            schemes++;
        }
        for (int i = random.nextInt(2 * tellers * facts); i > 0; i--) {
            int teller = random.nextInt(tellers);
            int fact = random.nextInt(facts);
            bench.learn(teller, fact);
            told.learn(teller, fact);
        }
    }

    private int upTo(int size) {
        int odd = random.nextInt(100);
        if (odd == 0) {
            return random.nextBoolean() ? -1 : Integer.MIN_VALUE;
        }
        if (odd == 1) {
            return random.nextBoolean() ? size : Integer.MAX_VALUE;
        }
        return size < 1 ? 0 : random.nextInt(size);
    }

    private int from(int least, int most) {
        int odd = random.nextInt(ODD * 4);
        if (odd == 0) {
            return least - 1;
        }
        if (odd == 1) {
            return most + 1;
        }
        if (odd < 6) {
            return odd < 4 ? least : most;
        }
        return least + random.nextInt(most - least + 1);
    }

    private int someFacts(int most) {
        if (random.nextInt(ODD * 2) == 0) {
            return random.nextBoolean() ? 0 : 65536;
        }
        int set = 0;
        for (int i = 1 + random.nextInt(most); i > 0; i--) {
            set |= 1 << random.nextInt(facts);
        }
        return set;
    }

    private int firm() {
        return random.nextInt(50) == 0 ? upTo(6) : random.nextInt(firms);
    }

    private int teller() {
        return random.nextInt(50) == 0 ? upTo(8) : random.nextInt(tellers);
    }

    private int schemeNumber() {
        return random.nextInt(ODD) == 0 ? upTo(8) : random.nextInt(Math.max(1, schemes));
    }

    private int suitNumber() {
        return random.nextInt(ODD) == 0 ? upTo(12) : random.nextInt(Math.max(1, suits));
    }

    /** Often what is just enough or one too little, as the second bench tells, or what the firm has or one more. */
    private int settlement(int suit) {
        boolean isSuit = suit >= 0 && suit < suits;
        switch (random.nextInt(isSuit ? 6 : 2)) {
            case 0: return from(0, 100000000);
            case 1: return from(0, 3000);
            case 2: case 3: return (told.due(suit) + 4) / 5 - random.nextInt(2);
            default: return told.ofFirm(told.ofSuit(suit, 1), 0) + random.nextInt(2);
        }
    }

    private void step(String where) {
        IntSupplier[] both = random.nextInt(3) == 0 ? ask() : random.nextBoolean() ? tellFacts() : tellSuits();
        String want = answer(both[1]);
        String got = answer(both[0]);
        Check.is(where + call, want, got);
        String name = call.substring(0, call.indexOf('('));
        boolean isNumber = !got.startsWith("I");
        schemes += name.equals("scheme") && isNumber ? 1 : 0;
        suits += name.equals("file") && isNumber ? 1 : 0;
        note(name + "=" + got);
        if (got.startsWith("IllegalState")) {
            note(name + "!");
        } else if (isNumber && Integer.parseInt(got) > 0) {
            note(name + ">0");
        }
    }

    private void note(String word) {
        seen.merge(word, 1, Integer::sum);
    }

    private static String answer(IntSupplier asked) {
        try {
            return Integer.toString(asked.getAsInt());
        } catch (RuntimeException e) {
            return Check.nameOf(e);
        }
    }

    private static int asInt(boolean is) {
        return is ? 1 : 0;
    }

    private IntSupplier[] two(String name, IntSupplier real, IntSupplier model, int... arguments) {
        StringBuilder text = new StringBuilder(name).append('(');
        for (int i = 0; i < arguments.length; i++) {
            text.append(i == 0 ? "" : ", ").append(arguments[i]);
        }
        call = text.append(')').toString();
        return new IntSupplier[] {real, model};
    }

    private IntSupplier[] tellFacts() {
        int scheme = schemeNumber();
        int teller = teller();
        int firm = firm();
        int fact = random.nextInt(ODD) == 0 ? upTo(16) : random.nextInt(facts);
        switch (random.nextInt(15)) {
            case 0: case 1: {
                int money = random.nextInt(3) == 0 ? from(1, richest) : from(1, Math.min(richest, 3000));
                return two("fund", () -> bench.fund(firm, money), () -> told.fund(firm, money), firm, money);
            }
            case 2: {
                int set = someFacts(5);
                int ground = from(0, 2);
                return two("scheme", () -> bench.scheme(firm, set, ground), () -> told.scheme(firm, set, ground),
                        firm, set, ground);
            }
            case 3: case 4: {
                int amount = from(1, 9999);
                return two("claim", () -> bench.claim(scheme, amount), () -> told.claim(scheme, amount),
                        scheme, amount);
            }
            case 5: case 6: {
                int looked = from(1, 100);
                int wrong = from(0, Math.max(looked, 1));
                return two("sample", () -> {
                    bench.sample(scheme, looked, wrong);
                    return 0;
                }, () -> told.sample(scheme, looked, wrong), scheme, looked, wrong);
            }
            case 7: case 8:
                return two("learn", () -> bench.learn(teller, fact), () -> told.learn(teller, fact), teller, fact);
            case 9: {
                // Few facts are made public in some runs, as nearly all suits are barred once all are.
                int open = random.nextInt(publishing) == 0 ? fact : 0;
                return two("publish", () -> bench.publish(open), () -> told.publish(open), open);
            }
            case 10:
                return two("plan", () -> asInt(bench.plan(teller, scheme)), () -> told.plan(teller, scheme),
                        teller, scheme);
            case 11: {
                int known = random.nextInt(4) == 0 ? scheme : 7;
                return two("know", () -> asInt(bench.know(known)), () -> told.know(known), known);
            }
            case 12:
                return two("admit", () -> asInt(bench.admit(scheme)), () -> told.admit(scheme), scheme);
            case 13: {
                int other = teller();
                int hundredths = random.nextInt(3) == 0 ? from(1, 100) : from(1, 30);
                return two("deal", () -> bench.deal(teller, other, hundredths),
                        () -> told.deal(teller, other, hundredths), teller, other, hundredths);
            }
            default: {
                int days = from(1, longestPass);
                return two("pass", () -> bench.pass(days), () -> told.pass(days), days);
            }
        }
    }

    private IntSupplier[] tellSuits() {
        int suit = suitNumber();
        int teller = teller();
        int firm = firm();
        switch (random.nextInt(16)) {
            case 0: case 1: {
                int set = someFacts(3);
                return two("file", () -> bench.file(teller, firm, set), () -> told.file(teller, firm, set),
                        teller, firm, set);
            }
            case 2: case 3: {
                int set = someFacts(2);
                return two("amend", () -> bench.amend(suit, set), () -> told.amend(suit, set), suit, set);
            }
            case 4:
                return two("extend", () -> bench.extend(suit), () -> told.extend(suit), suit);
            case 5: case 6: {
                int choice = random.nextInt(3) == 0 ? from(1, 3) : from(1, 2);
                return two("choose", () -> bench.choose(suit, choice), () -> told.choose(suit, choice), suit, choice);
            }
            case 7: {
                int help = from(0, 10);
                return two("help", () -> bench.help(suit, help), () -> told.help(suit, help), suit, help);
            }
            case 8: {
                int sum = settlement(suit);
                return two("settle", () -> bench.settle(suit, sum), () -> told.settle(suit, sum), suit, sum);
            }
            case 9: {
                int wage = random.nextBoolean() ? from(0, 999) : from(0, 9);
                return two("work", () -> bench.work(teller, firm, wage), () -> told.work(teller, firm, wage),
                        teller, firm, wage);
            }
            case 10:
                return two("tell", () -> bench.tell(firm, teller), () -> told.tell(firm, teller), firm, teller);
            case 11: case 12:
                return two("fire", () -> asInt(bench.fire(firm, teller)), () -> told.fire(firm, teller),
                        firm, teller);
            case 13:
                return two("award", () -> bench.award(firm, teller), () -> told.award(firm, teller), firm, teller);
            default:
                return two("judge", () -> bench.judge(suit), () -> told.judge(suit), suit);
        }
    }

    private IntSupplier[] ask() {
        int suit = suitNumber();
        int scheme = schemeNumber();
        int teller = teller();
        switch (random.nextInt(7)) {
            case 0:
                return two("covers", () -> bench.covers(suit, scheme), () -> told.covers(suit, scheme), suit, scheme);
            case 1: case 2:
                return two("bars", () -> bench.bars(suit, scheme), () -> told.bars(suit, scheme), suit, scheme);
            case 3:
                return two("first", () -> bench.first(scheme), () -> told.first(scheme), scheme);
            case 4:
                return two("firstAnew", () -> bench.firstAnew(scheme), () -> told.first(scheme), scheme);
            case 5:
                return two("due", () -> bench.due(suit), () -> told.due(suit), suit);
            default:
                return two("sees", () -> asInt(bench.sees(teller, suit)), () -> told.sees(teller, suit),
                        teller, suit);
        }
    }

    private void askAll(String where) {
        List<IntSupplier[]> asked = new ArrayList<>();
        List<String> calls = new ArrayList<>();
        for (int i = -1; i <= 40; i++) {
            int number = i;
            for (int j = -1; j <= 10; j++) {
                int what = j;
                add(asked, calls, two("ofClaim", () -> bench.ofClaim(number, what), () -> told.ofClaim(number, what),
                        number, what));
                if (number <= 12) {
                    addWithin(asked, calls, number, what);
                }
            }
        }
        for (int i = 0; i < asked.size(); i++) {
            Check.is(where + calls.get(i), answer(asked.get(i)[1]), answer(asked.get(i)[0]));
        }
    }

    private void add(List<IntSupplier[]> asked, List<String> calls, IntSupplier[] both) {
        asked.add(both);
        calls.add(call);
    }

    private void addWithin(List<IntSupplier[]> asked, List<String> calls, int i, int j) {
        add(asked, calls, two("ofSuit", () -> bench.ofSuit(i, j), () -> told.ofSuit(i, j), i, j));
        add(asked, calls, two("ofFirm", () -> bench.ofFirm(i, j), () -> told.ofFirm(i, j), i, j));
        add(asked, calls, two("got", () -> bench.got(i, j), () -> told.got(i, j), i, j));
        add(asked, calls, two("covers", () -> bench.covers(i, j), () -> told.covers(i, j), i, j));
        add(asked, calls, two("bars", () -> bench.bars(i, j), () -> told.bars(i, j), i, j));
        add(asked, calls, two("sees", () -> asInt(bench.sees(j, i)), () -> told.sees(j, i), j, i));
        if (j == 0) {
            add(asked, calls, two("all", () -> bench.all(i), () -> told.all(i), i));
            add(asked, calls, two("due", () -> bench.due(i), () -> told.due(i), i));
            add(asked, calls, two("first", () -> bench.first(i), () -> told.first(i), i));
            add(asked, calls, two("firstAnew", () -> bench.firstAnew(i), () -> told.first(i), i));
        }
    }
}
