/** What clash, never and lacks share: a day, an index from 0 on, and -1 behind the last. */
final class Listed {
    private static final String TWO = "p1k1r0:1a;p2k1r0:1a;";

    interface Question {
        int ask(PlanText x, int day, int i);
    }

    private Listed() {
    }

    /** What is due is the first answer for two plans that are alike. */
    static void refusesNumbersOutsideTheirRange(Question question, int first) {
        PlanText x = Due.with(TWO);
        for (int v : new int[] {-1, Integer.MIN_VALUE}) {
            Due.outside("i " + v, () -> question.ask(x, 0, v));
            Due.outside("i " + v + " without rows", () -> question.ask(new PlanText(), 0, v));
            Due.outside("both", () -> question.ask(x, v, v));
        }
        for (int v : new int[] {-1, 10000, Integer.MIN_VALUE, Integer.MAX_VALUE}) {
            Due.outside("day " + v, () -> question.ask(x, v, 0));
            Due.outside("day " + v + " without rows", () -> question.ask(new PlanText(), v, 0));
        }
        Due.same("the least", question.ask(x, 0, 0), first);
        Due.same("the greatest day", question.ask(x, 9999, 0), first);
    }

    static void tellsNoneBehindThem(Question question, int first) {
        PlanText x = new PlanText();
        Due.same("no edition", question.ask(x, 0, 0), -1);
        Due.read(x, TWO, 3);
        Due.same("a day without an edition", question.ask(x, 2, 0), -1);
        Due.same("the first", question.ask(x, 3, 0), first);
        for (int i : new int[] {2, 3, 40, 41, 64, 65, 780, 1000, Integer.MAX_VALUE}) {
            Due.same("the one at " + i, question.ask(x, 3, i), -1);
        }
        x.read(3);
        Due.same("an edition without rows", question.ask(x, 3, 0), -1);
        Due.read(x, "d1:9a;d2:9a;s[0-23]1:9a;", 3);
        Due.same("an edition without plans", question.ask(x, 3, 0), -1);
    }
}
