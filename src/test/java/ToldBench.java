import java.util.ArrayList;
import java.util.HashMap;
import java.util.List;
import java.util.Map;
import java.util.Set;
import java.util.TreeSet;

/**
 * A second bench for the tests, as near to the document's words as can be: it keeps what was told, with its day, and
 * finds each answer by going through all of that again.
 */
final class ToldBench {
    private record Gift(int firm, int money) { }

    private record Scheme(int number, int firm, Set<Integer> facts, int ground) { }

    private record Sample(int scheme, int looked, int wrong) { }

    private record Claim(int scheme, int amount, int day) { }

    private record Deal(int teller, int other, int hundredths, int day) { }

    private record Suit(int number, int teller, int firm, Set<Integer> facts, int day) { }

    private record Amendment(int suit, Set<Integer> facts, int day) { }

    private record Choice(int suit, int choice, int day) { }

    private record Win(int suit, int paid, int share, int hundredths, Map<Integer, Integer> parts) { }

    private record Job(int firm, int wage) { }

    private record Firing(int firm, int teller, int wage, boolean forTelling, int day) { }

    private record Award(Firing firing, int paid) { }

    private final List<Gift> gifts = new ArrayList<>();
    private final List<Scheme> schemes = new ArrayList<>();
    private final List<Sample> samples = new ArrayList<>();
    private final List<Claim> claims = new ArrayList<>();
    private final Map<Integer, Integer> claimPaidBy = new HashMap<>();
    private final Map<Integer, Set<Integer>> learned = new HashMap<>();
    private final Map<Integer, Integer> published = new HashMap<>();
    private final Set<Integer> plans = new TreeSet<>();
    private final Map<Integer, Integer> known = new HashMap<>();
    private final Set<Integer> admitted = new TreeSet<>();
    private final List<Deal> deals = new ArrayList<>();
    private final List<Suit> suits = new ArrayList<>();
    private final List<Amendment> amendments = new ArrayList<>();
    private final List<Integer> extensions = new ArrayList<>();
    private final List<Choice> choices = new ArrayList<>();
    private final Map<Integer, Integer> helps = new HashMap<>();
    private final Map<Integer, Win> wins = new HashMap<>();
    private final Map<Integer, Job> jobs = new HashMap<>();
    private final Map<Integer, Integer> tolds = new HashMap<>();
    private final List<Firing> firings = new ArrayList<>();
    private final List<Award> awards = new ArrayList<>();
    private int day = 0;

    int fund(int firm, int money) {
        index(firm, 6);
        argument(money, 1, 1000000);
        state(ofFirm(firm, 0) + money <= 100000000);
        gifts.add(new Gift(firm, money));
        return ofFirm(firm, 0);
    }

    int scheme(int firm, int facts, int ground) {
        index(firm, 6);
        argument(facts, 1, 65535);
        argument(ground, 0, 2);
        state(schemes.size() < 8);
        schemes.add(new Scheme(schemes.size(), firm, setOf(facts), ground));
        return schemes.size() - 1;
    }

    int claim(int scheme, int amount) {
        index(scheme, schemes.size());
        argument(amount, 1, 9999);
        state(claims.size() < 40);
        claims.add(new Claim(scheme, amount, day));
        return claims.size() - 1;
    }

    int sample(int scheme, int looked, int wrong) {
        index(scheme, schemes.size());
        argument(looked, 1, 100);
        argument(wrong, 0, looked);
        samples.add(new Sample(scheme, looked, wrong));
        return 0;
    }

    int learn(int teller, int fact) {
        index(teller, 8);
        index(fact, 16);
        learned.computeIfAbsent(teller, t -> new TreeSet<>()).add(fact);
        return learned.get(teller).size();
    }

    int publish(int fact) {
        index(fact, 16);
        published.putIfAbsent(fact, day);
        return published.size();
    }

    int plan(int teller, int scheme) {
        index(teller, 8);
        index(scheme, schemes.size());
        return plans.add(teller * 100 + scheme) ? 0 : 1;
    }

    int know(int scheme) {
        index(scheme, schemes.size());
        return known.putIfAbsent(scheme, day) == null ? 0 : 1;
    }

    int admit(int scheme) {
        index(scheme, schemes.size());
        for (Suit suit : suits) {
            boolean open = !isSealed(suit) && stateOf(suit) != RelatorsBench.DISMISSED;
            state(!(open && coverDay(suit, schemes.get(scheme)) != -1));
        }
        return admitted.add(scheme) ? 0 : 1;
    }

    int deal(int teller, int other, int hundredths) {
        index(teller, 8);
        index(other, 8);
        argument(teller == other ? 0 : 1, 1, 1);
        argument(hundredths, 1, 100);
        int given = deals.stream().filter(d -> d.teller == teller).mapToInt(Deal::hundredths).sum();
        state(deals.size() < 20 && given + hundredths <= 100);
        deals.add(new Deal(teller, other, hundredths, day));
        return given + hundredths;
    }

    int file(int teller, int firm, int facts) {
        index(teller, 8);
        index(firm, 6);
        argument(facts, 1, 65535);
        state(learned.getOrDefault(teller, Set.of()).containsAll(setOf(facts)) && suits.size() < 12);
        suits.add(new Suit(suits.size(), teller, firm, setOf(facts), day));
        return suits.size() - 1;
    }

    int amend(int suit, int facts) {
        index(suit, suits.size());
        argument(facts, 1, 65535);
        Suit amended = suits.get(suit);
        state(!isOver(amended));
        state(learned.getOrDefault(amended.teller, Set.of()).containsAll(setOf(facts)));
        state(amendments.size() < 40);
        amendments.add(new Amendment(suit, setOf(facts), day));
        return factsBy(amended, day).size();
    }

    int extend(int suit) {
        index(suit, suits.size());
        state(isSealed(suits.get(suit)));
        state(extensions.stream().filter(s -> s == suit).count() < 4);
        extensions.add(suit);
        return openFrom(suits.get(suit));
    }

    int choose(int suit, int choice) {
        index(suit, suits.size());
        argument(choice, 1, 3);
        Suit chosen = suits.get(suit);
        state(!isOver(chosen));
        int before = stateOf(chosen);
        state(!(choice == RelatorsBench.DECLINED && before == RelatorsBench.JOINED));
        choices.add(new Choice(suit, choice, day));
        return before;
    }

    int help(int suit, int help) {
        index(suit, suits.size());
        argument(help, 0, 10);
        state(!isOver(suits.get(suit)));
        Integer before = helps.put(suit, help);
        return before == null ? 0 : before;
    }

    int judge(int suit) {
        index(suit, suits.size());
        Suit judged = suits.get(suit);
        state(isReady(judged));
        return win(judged, Math.min(due(suit), ofFirm(judged.firm, 0))).paid;
    }

    int settle(int suit, int sum) {
        index(suit, suits.size());
        argument(sum, 0, 100000000);
        Suit settled = suits.get(suit);
        state(isReady(settled));
        state(sum <= ofFirm(settled.firm, 0));
        state(stateOf(settled) == RelatorsBench.JOINED || sum * 5L >= due(suit));
        return win(settled, sum).share;
    }

    int work(int teller, int firm, int wage) {
        index(teller, 8);
        index(firm, 6);
        argument(wage, 0, 999);
        Job before = jobs.put(teller, new Job(firm, wage));
        return before == null ? -1 : before.firm;
    }

    int tell(int firm, int teller) {
        index(firm, 6);
        index(teller, 8);
        tolds.putIfAbsent(firm * 100 + teller, day);
        return knowsFrom(firm, teller);
    }

    int fire(int firm, int teller) {
        index(firm, 6);
        index(teller, 8);
        state(jobs.containsKey(teller) && jobs.get(teller).firm == firm);
        int since = knowsFrom(firm, teller);
        boolean forTelling = since <= day && day <= since + 90;
        firings.add(new Firing(firm, teller, jobs.remove(teller).wage, forTelling, day));
        return forTelling ? 1 : 0;
    }

    int award(int firm, int teller) {
        index(firm, 6);
        index(teller, 8);
        Firing latest = null;
        for (Firing firing : firings) {
            latest = firing.firm == firm && firing.teller == teller ? firing : latest;
        }
        state(latest != null && latest.forTelling);
        for (Award award : awards) {
            state(award.firing != latest);
        }
        int due = 0;
        for (int since = latest.day; since < day && since < latest.day + 400; since++) {
            due += 2 * latest.wage;
        }
        int paid = Math.min(due, ofFirm(firm, 0));
        awards.add(new Award(latest, paid));
        return paid;
    }

    int pass(int days) {
        argument(days, 1, 300);
        state(day + days <= 3000);
        day += days;
        return day;
    }

    int covers(int suit, int scheme) {
        index(suit, suits.size());
        index(scheme, schemes.size());
        return coverDay(suits.get(suit), schemes.get(scheme));
    }

    int bars(int suit, int scheme) {
        index(suit, suits.size());
        index(scheme, schemes.size());
        return bar(suits.get(suit), schemes.get(scheme));
    }

    int first(int scheme) {
        index(scheme, schemes.size());
        return firstOf(schemes.get(scheme));
    }

    int due(int suit) {
        index(suit, suits.size());
        Suit asked = suits.get(suit);
        int due = 0;
        for (Scheme scheme : schemes) {
            due += isOver(asked) || bar(asked, scheme) != 0 ? 0 : sum(asked, scheme);
        }
        return due;
    }

    int sees(int teller, int suit) {
        index(teller, 8);
        index(suit, suits.size());
        return suits.get(suit).teller == teller || !isSealed(suits.get(suit)) ? 1 : 0;
    }

    int ofSuit(int suit, int what) {
        index(suit, suits.size());
        index(what, 10);
        Suit asked = suits.get(suit);
        Win win = wins.get(suit);
        return switch (what) {
            case 0 -> asked.teller;
            case 1 -> asked.firm;
            case 2 -> factsBy(asked, day).stream().mapToInt(f -> 1 << f).sum();
            case 3 -> asked.day;
            case 4 -> stateOf(asked);
            case 5 -> openFrom(asked);
            case 6 -> helps.getOrDefault(suit, 0);
            case 7 -> win == null ? 0 : win.paid;
            case 8 -> win == null ? 0 : win.share;
            default -> win == null ? hundredths(asked) : win.hundredths;
        };
    }

    int ofClaim(int claim, int what) {
        index(claim, claims.size());
        index(what, 4);
        Claim asked = claims.get(claim);
        return new int[] {asked.scheme, asked.amount, asked.day, claimPaidBy.getOrDefault(claim, -1)}[what];
    }

    int got(int teller, int what) {
        index(teller, 8);
        index(what, 3);
        int own = 0;
        int parts = 0;
        for (Win win : wins.values()) {
            parts += win.parts.getOrDefault(teller, 0);
            if (suits.get(win.suit).teller == teller) {
                own += win.share - win.parts.values().stream().mapToInt(p -> p).sum();
            }
        }
        int awarded = awards.stream().filter(a -> a.firing.teller == teller).mapToInt(Award::paid).sum();
        return new int[] {own, parts, awarded}[what];
    }

    int ofFirm(int firm, int what) {
        index(firm, 6);
        index(what, 4);
        int given = gifts.stream().filter(g -> g.firm == firm).mapToInt(Gift::money).sum();
        int bySuits = wins.values().stream().filter(w -> suits.get(w.suit).firm == firm).mapToInt(Win::paid).sum();
        int byAwards = awards.stream().filter(a -> a.firing.firm == firm).mapToInt(Award::paid).sum();
        return new int[] {given - bySuits - byAwards, given, bySuits, byAwards}[what];
    }

    int all(int what) {
        index(what, 4);
        int state = wins.values().stream().mapToInt(w -> w.paid - w.share).sum();
        int sealed = (int) suits.stream().filter(this::isSealed).count();
        return new int[] {day, state, published.size(), sealed}[what];
    }

    private static void index(int index, int size) {
        if (index < 0 || index >= size) {
            throw new IndexOutOfBoundsException();
        }
    }

    private static void argument(int value, int least, int most) {
        if (value < least || value > most) {
            throw new IllegalArgumentException();
        }
    }

    private static void state(boolean right) {
        if (!right) {
            throw new IllegalStateException();
        }
    }

    private static Set<Integer> setOf(int facts) {
        Set<Integer> set = new TreeSet<>();
        for (int fact = 0; fact < 16; fact++) {
            if ((facts >> fact) % 2 == 1) {
                set.add(fact);
            }
        }
        return set;
    }

    private static Set<Integer> both(Set<Integer> one, Set<Integer> other) {
        Set<Integer> both = new TreeSet<>(one);
        both.retainAll(other);
        return both;
    }

    private Set<Integer> factsBy(Suit suit, int last) {
        Set<Integer> facts = new TreeSet<>(suit.facts);
        for (Amendment amendment : amendments) {
            if (amendment.suit == suit.number && amendment.day <= last) {
                facts.addAll(amendment.facts);
            }
        }
        return facts;
    }

    private boolean hasHalf(Suit suit, Scheme scheme, int last) {
        return suit.firm == scheme.firm && both(factsBy(suit, last), scheme.facts).size() >= scheme.facts.size() / 2.0;
    }

    private int coverDay(Suit suit, Scheme scheme) {
        if (!hasHalf(suit, scheme, day)) {
            return -1;
        }
        int covered = day;
        while (covered > suit.day && hasHalf(suit, scheme, covered - 1)) {
            covered--;
        }
        return both(suit.facts, scheme.facts).isEmpty() ? covered : suit.day;
    }

    private int firstOf(Scheme scheme) {
        int first = -1;
        int earliest = Integer.MAX_VALUE;
        for (Suit suit : suits) {
            int covered = stateOf(suit) == RelatorsBench.DISMISSED ? -1 : coverDay(suit, scheme);
            if (covered != -1 && covered < earliest) {
                earliest = covered;
                first = suit.number;
            }
        }
        return first;
    }

    private int bar(Suit suit, Scheme scheme) {
        int covered = coverDay(suit, scheme);
        if (covered == -1) {
            return 1;
        }
        if (firstOf(scheme) != suit.number) {
            return 2;
        }
        Set<Integer> others = new TreeSet<>(scheme.facts);
        others.removeIf(f -> published.getOrDefault(f, Integer.MAX_VALUE) <= covered);
        boolean halfIsPublic = others.size() <= scheme.facts.size() / 2.0;
        boolean joined = choices.stream().anyMatch(c -> c.suit == suit.number && c.choice == RelatorsBench.JOINED);
        return halfIsPublic && both(factsBy(suit, day), others).isEmpty() && !joined ? 3 : 0;
    }

    private boolean counts(int claim, Suit suit, Scheme scheme) {
        Claim asked = claims.get(claim);
        return asked.scheme == scheme.number && !claimPaidBy.containsKey(claim)
                && coverDay(suit, scheme) - asked.day <= 600
                && asked.day < known.getOrDefault(scheme.number, Integer.MAX_VALUE);
    }

    private int sum(Suit suit, Scheme scheme) {
        Sample sample = new Sample(scheme.number, 1, 0);
        for (Sample told : samples) {
            sample = told.scheme == scheme.number ? told : sample;
        }
        int amounts = 0;
        int many = 0;
        for (int claim = 0; claim < claims.size(); claim++) {
            if (counts(claim, suit, scheme)) {
                amounts += claims.get(claim).amount;
                many++;
            }
        }
        int times = admitted.contains(scheme.number) ? 2 : 3;
        int penalty = List.of(100, 50, 20).get(scheme.ground);
        return amounts * sample.wrong / sample.looked * times + many * sample.wrong / sample.looked * penalty;
    }

    private int openFrom(Suit suit) {
        int from = suit.day + 60 + 30 * (int) extensions.stream().filter(s -> s == suit.number).count();
        for (Choice choice : choices) {
            from = choice.suit == suit.number ? Math.min(from, choice.day) : from;
        }
        return from;
    }

    private boolean isSealed(Suit suit) {
        return openFrom(suit) > day;
    }

    private int stateOf(Suit suit) {
        int state = RelatorsBench.OPEN;
        for (Choice choice : choices) {
            state = choice.suit == suit.number ? choice.choice : state;
        }
        return wins.containsKey(suit.number) ? RelatorsBench.WON : state;
    }

    private boolean isOver(Suit suit) {
        return stateOf(suit) == RelatorsBench.DISMISSED || stateOf(suit) == RelatorsBench.WON;
    }

    private boolean isReady(Suit suit) {
        return stateOf(suit) == RelatorsBench.JOINED || stateOf(suit) == RelatorsBench.DECLINED;
    }

    private int hundredths(Suit suit) {
        int help = helps.getOrDefault(suit.number, 0);
        boolean planned = schemes.stream()
                .anyMatch(s -> bar(suit, s) == 0 && plans.contains(suit.teller * 100 + s.number));
        int whole = switch (stateOf(suit)) {
            case RelatorsBench.JOINED -> 15 + help;
            case RelatorsBench.DECLINED -> 25 + help / 2;
            default -> 0;
        };
        return planned ? whole / 2 : whole;
    }

    private Win win(Suit suit, int paid) {
        int hundredths = hundredths(suit);
        int share = (int) (paid * (long) hundredths / 100);
        Map<Integer, Integer> parts = new HashMap<>();
        for (Deal deal : deals) {
            if (deal.teller == suit.teller && deal.day < suit.day) {
                parts.merge(deal.other, (int) (share * (long) deal.hundredths / 100), Integer::sum);
            }
        }
        for (Scheme scheme : schemes) {
            for (int claim = 0; claim < claims.size(); claim++) {
                if (bar(suit, scheme) == 0 && counts(claim, suit, scheme)) {
                    claimPaidBy.put(claim, suit.number);
                }
            }
        }
        Win win = new Win(suit.number, paid, share, hundredths, parts);
        wins.put(suit.number, win);
        return win;
    }

    private int knowsFrom(int firm, int teller) {
        int from = tolds.getOrDefault(firm * 100 + teller, Integer.MAX_VALUE - 100);
        for (Suit suit : suits) {
            from = suit.teller == teller && suit.firm == firm ? Math.min(from, openFrom(suit)) : from;
        }
        return from;
    }
}
