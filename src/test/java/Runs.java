/** Beginnings that several tests share. */
final class Runs {
    private Runs() {
    }

    /** The scheme 0 of the firm 0 and the fact 0 alone; the teller 0, who knows it, filed the suit 0 by it today. */
    static RelatorsBench suedScheme(int ground) {
        RelatorsBench bench = new RelatorsBench();
        bench.scheme(0, 1, ground);
        bench.learn(0, 0);
        bench.file(0, 0, 1);
        return bench;
    }

    /** The same, with money, and a claim of so much that is false. */
    static RelatorsBench suedClaim(int money, int amount) {
        RelatorsBench bench = suedScheme(RelatorsBench.BY_KEEPING);
        bench.fund(0, money);
        bench.claim(0, amount);
        bench.sample(0, 1, 1);
        return bench;
    }

    /** So many schemes of the firm 0, the scheme s of the fact s alone; the teller 0 knows every fact. */
    static RelatorsBench withSchemes(int many) {
        RelatorsBench bench = new RelatorsBench();
        learnAll(bench, 0);
        for (int scheme = 0; scheme < many; scheme++) {
            bench.scheme(0, 1 << scheme, RelatorsBench.BY_FACT);
        }
        return bench;
    }

    /** One scheme, and so many claims of it. */
    static RelatorsBench withClaims(int many) {
        RelatorsBench bench = withSchemes(1);
        for (int claim = 0; claim < many; claim++) {
            bench.claim(0, 1);
        }
        return bench;
    }

    /** One scheme, and so many suits of the teller 0 against its firm, which all cover it. */
    static RelatorsBench withSuits(int many) {
        RelatorsBench bench = withSchemes(1);
        for (int suit = 0; suit < many; suit++) {
            bench.file(0, 0, 1);
        }
        return bench;
    }

    /** The same, with all of them joined. */
    static RelatorsBench withJoined(int many) {
        RelatorsBench bench = withSuits(many);
        for (int suit = 0; suit < many; suit++) {
            bench.choose(suit, RelatorsBench.JOINED);
        }
        return bench;
    }

    /** Gives the firm 0 the most that a firm may have. */
    static void enrich(RelatorsBench bench) {
        for (int i = 0; i < 100; i++) {
            bench.fund(0, 1000000);
        }
    }

    static void learnAll(RelatorsBench bench, int teller) {
        for (int fact = 0; fact < 16; fact++) {
            bench.learn(teller, fact);
        }
    }

    /** Lets more days go by than one call may. */
    static void pass(RelatorsBench bench, int days) {
        int left = days;
        while (left > 300) {
            bench.pass(300);
            left -= 300;
        }
        bench.pass(left);
    }
}
