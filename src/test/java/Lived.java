/** Objects that have something of everything: editions, units, needs told, a print, and perhaps a place and a tape. */
final class Lived {
    private Lived() {
    }

    static PlanText begun() {
        PlanText x = new PlanText();
        readThree(x);
        ask(x);
        return x;
    }

    /** The latest text of it was wrong. */
    static PlanText with(String tape) {
        PlanText x = begun();
        Due.tape(x, "p1x");
        Due.notNow("a wrong text", () -> x.read(5));
        Due.tape(x, tape);
        return x;
    }

    /** It has six editions, the latest of them read right. */
    static PlanText full(String tape) {
        PlanText x = new PlanText();
        readThree(x);
        for (int i = 4; i <= 6; i++) {
            Due.read(x, "p" + i + "k1r0:2a/b,9h~9;", 3 + i);
        }
        ask(x);
        Due.tape(x, tape);
        return x;
    }

    static void readThree(PlanText x) {
        Due.read(x, eachUnit(), 3);
        Due.read(x, "p1k1r0:2a/b,9h~9;p2k1r0:1a;d2:1c;s[22-5]1:1a;", 5);
        Due.read(x, "p3k1@7#10-20r1:3b;p4k1@7#1-99r1:9c;", 9);
    }

    /** Of each skill a plan needs just the town's units, and another one more: what lacks tells all units. */
    private static String eachUnit() {
        StringBuilder text = new StringBuilder();
        for (int skill = 0; skill < 8; skill++) {
            for (int more = 1; more <= 2; more++) {
                text.append("p").append(2 * skill + more).append("k9r0:").append(skill + more).append((char) ('a' + skill))
                    .append(";");
            }
        }
        return text.toString();
    }

    static void ask(PlanText x) {
        for (int skill = 0; skill < 8; skill++) {
            x.town(skill, skill + 1);
        }
        x.plan(1, 1, 1, 1, 5);
        x.print(5);
    }
}
