import java.util.ArrayList;
import java.util.Arrays;

/** A bench for those who tell on cheats of the state: see ../shared/DOC.md for what each call promises. */
public final class RelatorsBench {
    public static final int NONE = -1;
    public static final int BY_FACT = 0, BY_WORD = 1, BY_KEEPING = 2;
    public static final int OPEN = 0, JOINED = 1, DECLINED = 2, DISMISSED = 3, WON = 4;

    private static final int FIRMS = 6;
    private static final int TELLERS = 8;
    private static final int FACTS = 16;
    private static final int EVERY_FACT = 65535;

    private static final int MOST_SCHEMES = 8;
    private static final int MOST_CLAIMS = 40;
    private static final int MOST_DEALS = 20;
    private static final int MOST_SUITS = 12;
    private static final int MOST_AMENDMENTS = 40;
    private static final int MOST_EXTENSIONS = 4;

    private static final int LAST_DAY = 3000;
    private static final int MOST_DAYS_AT_ONCE = 300;
    private static final int SEAL_DAYS = 60;
    private static final int EXTENSION_DAYS = 30;
    private static final int OLDEST_CLAIM_DAYS = 600;
    private static final int TELLING_DAYS = 90;
    private static final int MOST_AWARD_DAYS = 400;

    private static final int MOST_MONEY = 100000000;
    private static final int MOST_GIFT = 1000000;
    private static final int MOST_AMOUNT = 9999;
    private static final int MOST_LOOKED = 100;
    private static final int MOST_HELP = 10;
    private static final int MOST_WAGE = 999;
    private static final int WHOLE = 100;

    private final Firm[] firms = new Firm[FIRMS];
    private final Teller[] tellers = new Teller[TELLERS];
    private final int[] publicFrom = new int[FACTS];
    private final ArrayList<Scheme> schemes = new ArrayList<>();
    private final ArrayList<Claim> claims = new ArrayList<>();
    private final ArrayList<Deal> deals = new ArrayList<>();
    private final ArrayList<Suit> suits = new ArrayList<>();
    private final int[] paperDays = new int[MOST_SUITS + MOST_AMENDMENTS];
    private int paperDayCount = 0;
    private int amendmentCount = 0;
    private int today = 0;
    private int stateGot = 0;

    public RelatorsBench() {
        for (int firm = 0; firm < FIRMS; firm++) {
            firms[firm] = new Firm();
        }
        for (int teller = 0; teller < TELLERS; teller++) {
            tellers[teller] = new Teller();
        }
        Arrays.fill(publicFrom, NONE);
    }

    // ---- firms, schemes, what is known

    public int fund(int firm, int money)
            throws IndexOutOfBoundsException, IllegalArgumentException, IllegalStateException {
        Firm funded = firmAt(firm);
        checkRange(money, 1, MOST_GIFT);
        checkState(funded.money + money <= MOST_MONEY);
        funded.money += money;
        funded.given += money;
        return funded.money;
    }

    public int scheme(int firm, int facts, int ground)
            throws IndexOutOfBoundsException, IllegalArgumentException, IllegalStateException {
        checkIndex(firm, FIRMS);
        checkRange(facts, 1, EVERY_FACT);
        checkRange(ground, BY_FACT, BY_KEEPING);
        checkState(schemes.size() < MOST_SCHEMES);
        schemes.add(new Scheme(schemes.size(), firm, facts, ground));
        return schemes.size() - 1;
    }

    public int claim(int scheme, int amount)
            throws IndexOutOfBoundsException, IllegalArgumentException, IllegalStateException {
        checkIndex(scheme, schemes.size());
        checkRange(amount, 1, MOST_AMOUNT);
        checkState(claims.size() < MOST_CLAIMS);
        claims.add(new Claim(scheme, amount, today));
        return claims.size() - 1;
    }

    public void sample(int scheme, int looked, int wrong)
            throws IndexOutOfBoundsException, IllegalArgumentException {
        Scheme sampled = schemeAt(scheme);
        checkRange(looked, 1, MOST_LOOKED);
        checkRange(wrong, 0, looked);
        sampled.looked = looked;
        sampled.wrong = wrong;
    }

    public int learn(int teller, int fact) throws IndexOutOfBoundsException {
        Teller learner = tellerAt(teller);
        checkIndex(fact, FACTS);
        learner.facts |= 1 << fact;
        return Integer.bitCount(learner.facts);
    }

    public int publish(int fact) throws IndexOutOfBoundsException {
        checkIndex(fact, FACTS);
        if (publicFrom[fact] == NONE) {
            publicFrom[fact] = today;
        }
        return Integer.bitCount(publicBy(today));
    }

    public boolean plan(int teller, int scheme) throws IndexOutOfBoundsException {
        checkIndex(teller, TELLERS);
        Scheme planned = schemeAt(scheme);
        boolean wasTold = planned.isPlannedBy(teller);
        planned.planners |= 1 << teller;
        return wasTold;
    }

    public boolean know(int scheme) throws IndexOutOfBoundsException {
        Scheme known = schemeAt(scheme);
        boolean wasKnown = known.knownFrom != NONE;
        if (!wasKnown) {
            known.knownFrom = today;
        }
        return wasKnown;
    }

    public boolean admit(int scheme) throws IndexOutOfBoundsException, IllegalStateException {
        Scheme admitted = schemeAt(scheme);
        checkState(!isCoveredInTheOpen(admitted));
        boolean wasAdmitted = admitted.isAdmitted;
        admitted.isAdmitted = true;
        return wasAdmitted;
    }

    // ---- suits

    public int deal(int teller, int other, int hundredths)
            throws IndexOutOfBoundsException, IllegalArgumentException, IllegalStateException {
        Teller giver = tellerAt(teller);
        checkIndex(other, TELLERS);
        checkArgument(teller != other);
        checkRange(hundredths, 1, WHOLE);
        checkState(deals.size() < MOST_DEALS);
        checkState(giver.givenAway + hundredths <= WHOLE);
        deals.add(new Deal(teller, other, hundredths, today));
        giver.givenAway += hundredths;
        return giver.givenAway;
    }

    public int file(int teller, int firm, int facts)
            throws IndexOutOfBoundsException, IllegalArgumentException, IllegalStateException {
        Teller filer = tellerAt(teller);
        checkIndex(firm, FIRMS);
        checkRange(facts, 1, EVERY_FACT);
        checkState(filer.knowsAll(facts));
        checkState(suits.size() < MOST_SUITS);
        suits.add(new Suit(suits.size(), teller, firm, facts, today));
        notePaperDay();
        return suits.size() - 1;
    }

    public int amend(int suit, int facts)
            throws IndexOutOfBoundsException, IllegalArgumentException, IllegalStateException {
        Suit amended = suitAt(suit);
        checkRange(facts, 1, EVERY_FACT);
        checkState(!amended.isOver());
        checkState(tellerAt(amended.teller).knowsAll(facts));
        checkState(amendmentCount < MOST_AMENDMENTS);
        amended.addFacts(facts, today);
        amendmentCount++;
        notePaperDay();
        return Integer.bitCount(amended.facts);
    }

    public int extend(int suit) throws IndexOutOfBoundsException, IllegalStateException {
        Suit extended = suitAt(suit);
        checkState(extended.isSealedOn(today));
        checkState(extended.extensions < MOST_EXTENSIONS);
        extended.extensions++;
        extended.unsealedFrom += EXTENSION_DAYS;
        return extended.unsealedFrom;
    }

    public int choose(int suit, int choice)
            throws IndexOutOfBoundsException, IllegalArgumentException, IllegalStateException {
        Suit chosen = suitAt(suit);
        checkRange(choice, JOINED, DISMISSED);
        checkState(!chosen.isOver());
        checkState(choice != DECLINED || chosen.state != JOINED);
        int before = chosen.state;
        chosen.state = choice;
        chosen.wasJoined = chosen.wasJoined || choice == JOINED;
        chosen.unsealedFrom = Math.min(chosen.unsealedFrom, today);
        return before;
    }

    public int help(int suit, int help)
            throws IndexOutOfBoundsException, IllegalArgumentException, IllegalStateException {
        Suit helped = suitAt(suit);
        checkRange(help, 0, MOST_HELP);
        checkState(!helped.isOver());
        int before = helped.help;
        helped.help = help;
        return before;
    }

    public int judge(int suit) throws IndexOutOfBoundsException, IllegalStateException {
        Suit judged = suitAt(suit);
        checkState(judged.isReady());
        win(judged, Math.min(dueBy(judged), firmAt(judged.firm).money));
        return judged.paid;
    }

    public int settle(int suit, int sum)
            throws IndexOutOfBoundsException, IllegalArgumentException, IllegalStateException {
        Suit settled = suitAt(suit);
        checkRange(sum, 0, MOST_MONEY);
        checkState(settled.isReady());
        checkState(sum <= firmAt(settled.firm).money);
        checkState(settled.state != DECLINED || 5 * sum >= dueBy(settled));
        win(settled, sum);
        return settled.share;
    }

    public int work(int teller, int firm, int wage)
            throws IndexOutOfBoundsException, IllegalArgumentException {
        Teller worker = tellerAt(teller);
        checkIndex(firm, FIRMS);
        checkRange(wage, 0, MOST_WAGE);
        int before = worker.employer;
        worker.employer = firm;
        worker.wage = wage;
        return before;
    }

    public int tell(int firm, int teller) throws IndexOutOfBoundsException {
        Firm told = firmAt(firm);
        checkIndex(teller, TELLERS);
        if (told.toldOn[teller] == NONE) {
            told.toldOn[teller] = today;
        }
        return dayOfKnowing(firm, teller);
    }

    public boolean fire(int firm, int teller) throws IndexOutOfBoundsException, IllegalStateException {
        Firm firing = firmAt(firm);
        Teller fired = tellerAt(teller);
        checkState(fired.employer == firm);
        boolean isForTelling = wouldFireForTelling(firm, teller);
        // The latest firing alone counts, so one for another cause takes an open award away.
        firing.awardFrom[teller] = isForTelling ? today : NONE;
        firing.lostWage[teller] = fired.wage;
        fired.employer = NONE;
        return isForTelling;
    }

    public int award(int firm, int teller) throws IndexOutOfBoundsException, IllegalStateException {
        Firm payer = firmAt(firm);
        Teller fired = tellerAt(teller);
        checkState(payer.awardFrom[teller] != NONE);
        int days = Math.min(today - payer.awardFrom[teller], MOST_AWARD_DAYS);
        int paid = Math.min(2 * days * payer.lostWage[teller], payer.money);
        payer.awardFrom[teller] = NONE;
        payer.money -= paid;
        payer.paidByAwards += paid;
        fired.awards += paid;
        return paid;
    }

    public int pass(int days) throws IllegalArgumentException, IllegalStateException {
        checkRange(days, 1, MOST_DAYS_AT_ONCE);
        checkState(today + days <= LAST_DAY);
        today += days;
        return today;
    }

    // ---- what is asked

    public int covers(int suit, int scheme) throws IndexOutOfBoundsException {
        return suitAt(suit).coverDay(schemeAt(scheme));
    }

    public int bars(int suit, int scheme) throws IndexOutOfBoundsException {
        return barOf(suitAt(suit), schemeAt(scheme));
    }

    public int first(int scheme) throws IndexOutOfBoundsException {
        return firstFor(schemeAt(scheme));
    }

    public int firstAnew(int scheme) throws IndexOutOfBoundsException {
        Scheme asked = schemeAt(scheme);
        // A suit covers a scheme from the day of one of its papers, so days without one are left out.
        for (int i = 0; i < paperDayCount; i++) {
            int suit = lowestCoveringFrom(paperDays[i], asked);
            if (suit != NONE) {
                return suit;
            }
        }
        return NONE;
    }

    public int due(int suit) throws IndexOutOfBoundsException {
        return dueBy(suitAt(suit));
    }

    public boolean sees(int teller, int suit) throws IndexOutOfBoundsException {
        checkIndex(teller, TELLERS);
        Suit seen = suitAt(suit);
        return seen.teller == teller || !seen.isSealedOn(today);
    }

    public int ofSuit(int suit, int what) throws IndexOutOfBoundsException {
        Suit asked = suitAt(suit);
        switch (what) {
            case 0: return asked.teller;
            case 1: return asked.firm;
            case 2: return asked.facts;
            case 3: return asked.filedOn;
            case 4: return asked.state;
            case 5: return asked.unsealedFrom;
            case 6: return asked.help;
            case 7: return asked.paid;
            case 8: return asked.share;
            case 9: return hundredthsOf(asked);
            default: throw new IndexOutOfBoundsException("nothing such is told of a suit");
        }
    }

    public int ofClaim(int claim, int what) throws IndexOutOfBoundsException {
        checkIndex(claim, claims.size());
        Claim asked = claims.get(claim);
        switch (what) {
            case 0: return asked.scheme;
            case 1: return asked.amount;
            case 2: return asked.day;
            case 3: return asked.paidBy;
            default: throw new IndexOutOfBoundsException("nothing such is told of a claim");
        }
    }

    public int got(int teller, int what) throws IndexOutOfBoundsException {
        Teller asked = tellerAt(teller);
        switch (what) {
            case 0: return asked.ownShares;
            case 1: return asked.parts;
            case 2: return asked.awards;
            default: throw new IndexOutOfBoundsException("nothing such is got by a teller");
        }
    }

    public int ofFirm(int firm, int what) throws IndexOutOfBoundsException {
        Firm asked = firmAt(firm);
        switch (what) {
            case 0: return asked.money;
            case 1: return asked.given;
            case 2: return asked.paidBySuits;
            case 3: return asked.paidByAwards;
            default: throw new IndexOutOfBoundsException("nothing such is told of a firm");
        }
    }

    public int all(int what) throws IndexOutOfBoundsException {
        switch (what) {
            case 0: return today;
            case 1: return stateGot;
            case 2: return Integer.bitCount(publicBy(today));
            case 3: return sealedSuits();
            default: throw new IndexOutOfBoundsException("nothing such is told of the whole");
        }
    }

    // ---- what calls are refused for

    private static void checkIndex(int index, int size) {
        if (index < 0 || index >= size) {
            throw new IndexOutOfBoundsException("there is none of this number");
        }
    }

    private static void checkRange(int value, int least, int most) {
        checkArgument(value >= least && value <= most);
    }

    private static void checkArgument(boolean isRight) {
        if (!isRight) {
            throw new IllegalArgumentException("an argument is out of range");
        }
    }

    private static void checkState(boolean isRight) {
        if (!isRight) {
            throw new IllegalStateException("this can't be done now");
        }
    }

    private Firm firmAt(int firm) {
        checkIndex(firm, FIRMS);
        return firms[firm];
    }

    private Teller tellerAt(int teller) {
        checkIndex(teller, TELLERS);
        return tellers[teller];
    }

    private Scheme schemeAt(int scheme) {
        checkIndex(scheme, schemes.size());
        return schemes.get(scheme);
    }

    private Suit suitAt(int suit) {
        checkIndex(suit, suits.size());
        return suits.get(suit);
    }

    // ---- who covers a scheme, and who is barred from it

    private void notePaperDay() {
        boolean isNew = paperDayCount == 0 || paperDays[paperDayCount - 1] != today;
        if (isNew && paperDayCount < paperDays.length) {
            paperDays[paperDayCount] = today;
            paperDayCount++;
        }
    }

    private boolean isCoveredInTheOpen(Scheme scheme) {
        for (int i = 0; i < suits.size(); i++) {
            Suit suit = suits.get(i);
            boolean isInTheOpen = suit.state != DISMISSED && !suit.isSealedOn(today);
            if (isInTheOpen && suit.coverDay(scheme) != NONE) {
                return true;
            }
        }
        return false;
    }

    private int firstFor(Scheme scheme) {
        int first = NONE;
        int earliest = NONE;
        for (int i = 0; i < suits.size(); i++) {
            Suit suit = suits.get(i);
            int day = suit.state == DISMISSED ? NONE : suit.coverDay(scheme);
            if (day != NONE && (first == NONE || day < earliest)) {
                first = i;
                earliest = day;
            }
        }
        return first;
    }

    private int lowestCoveringFrom(int day, Scheme scheme) {
        for (int i = 0; i < suits.size(); i++) {
            Suit suit = suits.get(i);
            if (suit.state != DISMISSED && suit.coverDay(scheme) == day) {
                return i;
            }
        }
        return NONE;
    }

    private int barOf(Suit suit, Scheme scheme) {
        int covered = suit.coverDay(scheme);
        if (covered == NONE) {
            return 1;
        }
        if (firstFor(scheme) != suit.number) {
            return 2;
        }
        return restsOnThePublic(suit, scheme, covered) ? 3 : 0;
    }

    private boolean restsOnThePublic(Suit suit, Scheme scheme, int covered) {
        int known = publicBy(covered);
        int others = scheme.facts & ~known;
        return scheme.hasHalfIn(known) && (suit.facts & others) == 0 && !suit.wasJoined;
    }

    private int publicBy(int day) {
        int facts = 0;
        for (int fact = 0; fact < FACTS; fact++) {
            if (publicFrom[fact] != NONE && publicFrom[fact] <= day) {
                facts |= 1 << fact;
            }
        }
        return facts;
    }

    private int sealedSuits() {
        int sealed = 0;
        for (int i = 0; i < suits.size(); i++) {
            if (suits.get(i).isSealedOn(today)) {
                sealed++;
            }
        }
        return sealed;
    }

    // ---- what is due, and who has it

    private int dueBy(Suit suit) {
        if (suit.isOver()) {
            return 0;
        }
        int due = 0;
        for (int i = 0; i < schemes.size(); i++) {
            Scheme scheme = schemes.get(i);
            if (barOf(suit, scheme) == 0) {
                due += sumFor(suit, scheme);
            }
        }
        return due;
    }

    private int sumFor(Suit suit, Scheme scheme) {
        int covered = suit.coverDay(scheme);
        int amounts = 0;
        int many = 0;
        for (int i = 0; i < claims.size(); i++) {
            Claim claim = claims.get(i);
            if (counts(claim, scheme, covered)) {
                amounts += claim.amount;
                many++;
            }
        }
        int times = scheme.isAdmitted ? 2 : 3;
        return scheme.falsePartOf(amounts) * times + scheme.falsePartOf(many) * scheme.penalty();
    }

    private static boolean counts(Claim claim, Scheme scheme, int covered) {
        return claim.scheme == scheme.number
                && claim.paidBy == NONE
                && claim.day >= covered - OLDEST_CLAIM_DAYS
                && (scheme.knownFrom == NONE || claim.day < scheme.knownFrom);
    }

    private int hundredthsOf(Suit suit) {
        if (suit.state == WON) {
            return suit.hundredths;
        }
        if (!suit.isReady()) {
            return 0;
        }
        int hundredths = suit.state == JOINED ? 15 + suit.help : 25 + suit.help / 2;
        for (int i = 0; i < schemes.size(); i++) {
            Scheme scheme = schemes.get(i);
            if (scheme.isPlannedBy(suit.teller) && barOf(suit, scheme) == 0) {
                return hundredths / 2;
            }
        }
        return hundredths;
    }

    private void win(Suit suit, int paid) {
        suit.hundredths = hundredthsOf(suit);
        payClaims(suit);
        suit.state = WON;
        suit.paid = paid;
        suit.share = hundredthsFrom(paid, suit.hundredths);
        Firm firm = firmAt(suit.firm);
        firm.money -= paid;
        firm.paidBySuits += paid;
        stateGot += paid - suit.share;
        partShare(suit);
    }

    private void payClaims(Suit suit) {
        for (int i = 0; i < schemes.size(); i++) {
            Scheme scheme = schemes.get(i);
            if (barOf(suit, scheme) == 0) {
                payClaimsOf(scheme, suit);
            }
        }
    }

    private void payClaimsOf(Scheme scheme, Suit suit) {
        int covered = suit.coverDay(scheme);
        for (int i = 0; i < claims.size(); i++) {
            Claim claim = claims.get(i);
            if (counts(claim, scheme, covered)) {
                claim.paidBy = suit.number;
            }
        }
    }

    private void partShare(Suit suit) {
        int left = suit.share;
        for (int i = 0; i < deals.size(); i++) {
            Deal deal = deals.get(i);
            if (deal.teller == suit.teller && deal.day < suit.filedOn) {
                int part = hundredthsFrom(suit.share, deal.hundredths);
                tellerAt(deal.other).parts += part;
                left -= part;
            }
        }
        tellerAt(suit.teller).ownShares += left;
    }

    private static int hundredthsFrom(int sum, int hundredths) {
        // The product of the largest sum would leave the range of an int.
        return (int) ((long) sum * hundredths / WHOLE);
    }

    // ---- wages

    private int dayOfKnowing(int firm, int teller) {
        int earliest = firmAt(firm).toldOn[teller];
        for (int i = 0; i < suits.size(); i++) {
            Suit suit = suits.get(i);
            boolean isBetweenThem = suit.teller == teller && suit.firm == firm;
            if (isBetweenThem && (earliest == NONE || suit.unsealedFrom < earliest)) {
                earliest = suit.unsealedFrom;
            }
        }
        return earliest;
    }

    private boolean wouldFireForTelling(int firm, int teller) {
        int knownFrom = dayOfKnowing(firm, teller);
        return knownFrom != NONE && knownFrom <= today && today - knownFrom <= TELLING_DAYS;
    }

    private static final class Firm {
        int money = 0;
        int given = 0;
        int paidBySuits = 0;
        int paidByAwards = 0;
        /** For each teller the day on which the firm was told of them, or NONE. */
        final int[] toldOn = new int[TELLERS];
        /** For each teller the day of the firing for which an award is still to be had, or NONE. */
        final int[] awardFrom = new int[TELLERS];
        final int[] lostWage = new int[TELLERS];

        Firm() {
            Arrays.fill(toldOn, NONE);
            Arrays.fill(awardFrom, NONE);
        }
    }

    private static final class Teller {
        int facts = 0;
        int givenAway = 0;
        int employer = NONE;
        int wage = 0;
        int ownShares = 0;
        int parts = 0;
        int awards = 0;

        boolean knowsAll(int asked) {
            return (asked & ~facts) == 0;
        }
    }

    private static final class Scheme {
        final int number;
        final int firm;
        final int facts;
        final int ground;
        int looked = 1;
        int wrong = 0;
        int knownFrom = NONE;
        boolean isAdmitted = false;
        /** The set of the tellers who planned it, bit t for the teller t. */
        int planners = 0;

        Scheme(int number, int firm, int facts, int ground) {
            this.number = number;
            this.firm = firm;
            this.facts = facts;
            this.ground = ground;
        }

        boolean hasHalfIn(int others) {
            return 2 * Integer.bitCount(facts & others) >= Integer.bitCount(facts);
        }

        boolean isPlannedBy(int teller) {
            return (planners & (1 << teller)) != 0;
        }

        int falsePartOf(int whole) {
            return looked < 1 ? 0 : whole * wrong / looked;
        }

        int penalty() {
            switch (ground) {
                case BY_FACT: return 100;
                case BY_WORD: return 50;
                default: return 20;
            }
        }
    }

    private static final class Claim {
        final int scheme;
        final int amount;
        final int day;
        int paidBy = NONE;

        Claim(int scheme, int amount, int day) {
            this.scheme = scheme;
            this.amount = amount;
            this.day = day;
        }
    }

    private static final class Deal {
        final int teller;
        final int other;
        final int hundredths;
        final int day;

        Deal(int teller, int other, int hundredths, int day) {
            this.teller = teller;
            this.other = other;
            this.hundredths = hundredths;
            this.day = day;
        }
    }

    /** What a suit was filed or amended by: all the facts that it had with it, and the day. */
    private static final class Paper {
        final int facts;
        final int day;

        Paper(int facts, int day) {
            this.facts = facts;
            this.day = day;
        }
    }

    private static final class Suit {
        final int number;
        final int teller;
        final int firm;
        final int filedFacts;
        final int filedOn;
        final ArrayList<Paper> papers = new ArrayList<>();
        int facts;
        int state = OPEN;
        boolean wasJoined = false;
        int extensions = 0;
        int unsealedFrom;
        int help = 0;
        int paid = 0;
        int share = 0;
        int hundredths = 0;

        Suit(int number, int teller, int firm, int facts, int day) {
            this.number = number;
            this.teller = teller;
            this.firm = firm;
            this.filedFacts = facts;
            this.filedOn = day;
            this.facts = facts;
            this.unsealedFrom = day + SEAL_DAYS;
            papers.add(new Paper(facts, day));
        }

        void addFacts(int more, int day) {
            facts |= more;
            papers.add(new Paper(facts, day));
        }

        boolean isOver() {
            return state == DISMISSED || state == WON;
        }

        boolean isReady() {
            return state == JOINED || state == DECLINED;
        }

        boolean isSealedOn(int day) {
            return day < unsealedFrom;
        }

        /** The day on which it covered a scheme; NONE if it does not. */
        int coverDay(Scheme scheme) {
            if (firm != scheme.firm) {
                return NONE;
            }
            boolean reachesBack = (filedFacts & scheme.facts) != 0;
            for (int i = 0; i < papers.size(); i++) {
                Paper paper = papers.get(i);
                if (scheme.hasHalfIn(paper.facts)) {
                    return reachesBack ? filedOn : paper.day;
                }
            }
            return NONE;
        }
    }
}
