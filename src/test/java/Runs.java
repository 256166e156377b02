/** Beginnings that several tests share. */
final class Runs {
    private Runs() {
    }

    /** Firm 0 with the scheme 0 of the fact 0 alone; the teller 0, who knows it, filed the suit 0 by it on the day 0. */
    static RelatorsBench suedScheme(int ground) {
        RelatorsBench bench = new RelatorsBench();
        bench.scheme(0, 1, ground);
        bench.learn(0, 0);
        bench.file(0, 0, 1);
        return bench;
    }

    /** The same, with money, and a claim of so much that is false. */
    static RelatorsBench suedClaim(int money, int amount) {
        RelatorsBench bench = suedScheme(RelatorsBench.BY_KEEPING);
        bench.fund(0, money);
        bench.claim(0, amount);
        bench.sample(0, 1, 1);
        return bench;
    }

    static void learnAll(RelatorsBench bench, int teller) {
        for (int fact = 0; fact < 16; fact++) {
            bench.learn(teller, fact);
        }
    }

    /** Lets more days go by than one call may. */
    static void pass(RelatorsBench bench, int days) {
        int left = days;
        while (left > 300) {
            bench.pass(300);
            left -= 300;
        }
        bench.pass(left);
    }
}
