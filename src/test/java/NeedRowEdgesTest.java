/** Terms: a need in a row. */
public final class NeedRowEdgesTest {
    public static void main(String[] args) {
        hasACountFrom1To9();
        hasASkillFromAToH();
        hasUpTo2Alternatives();
        hasNoSkillTwice();
        mayHaveALimitFrom1To99();
        Due.end();
    }

    private static void hasACountFrom1To9() {
        Due.sentence("A NEED: a COUNT (1 .. 9)");
        Rows.range("p1k1r0:", 1, 9, "a;");
        Rows.range("p1k1r0:1a,1a,1a,1a,", 1, 9, "a;");
        Rows.range("d1:", 1, 9, "a;");
        for (int count = 1; count <= 9; count++) {
            PlanText x = Due.with("p1k1r0:" + count + "a;");
            x.plan(1, 1, 1, 0, 0);
            Due.same("count " + count, x.need(0, 0), count);
        }
    }

    private static void hasASkillFromAToH() {
        Due.sentence("a SKILL (a .. h)");
        for (char skill = 'a'; skill <= 'h'; skill++) {
            Rows.kept("p1k1r0:1" + skill + ";");
            PlanText x = Due.with("p1k1r0:1" + skill + ";");
            x.plan(1, 1, 1, 0, 0);
            Due.same("skill " + skill, x.need(0, 1), skill - 'a');
        }
        for (String other : new String[] {"`", "i", "A", "H", "1", ";", "~", ",", "/"}) {
            Rows.wrong("p1k1r0:1!" + other);
            Rows.wrong("p1k1r0:1!" + other + ";");
            Rows.wrong("d1:1!" + other + ";");
            Rows.wrong("p1k1r0:1c/!" + other + ";");
            Rows.wrong("p1k1r0:1c/b/!" + other + ";");
        }
        Rows.wrong("p1k1r0:1a!b;");
    }

    private static void hasUpTo2Alternatives() {
        Due.sentence("up to 2 ALTERNATIVES (/ and a skill each");
        alternatives("1a", -1, -1);
        alternatives("1a/h", 7, -1);
        alternatives("1a/h/b", 7, 1);
        Rows.wrong("p1k1r0:1a/h/b!/c;");
        Rows.wrong("p1k1r0:1a/h/b!/");
        Rows.wrong("p1k1r0:1a/!/b;");
        Rows.wrong("d1:1a/h/b!/c;");
        Rows.wrong("p1k1r0:1a/h!b;");
    }

    private static void alternatives(String need, int first, int second) {
        Rows.kept("p1k1r0:" + need + ";");
        Rows.kept("d1:" + need + "~5;");
        PlanText x = Due.with("p1k1r0:" + need + ";");
        x.plan(1, 1, 1, 0, 0);
        Due.same("first alternative of " + need, x.need(0, 2), first);
        Due.same("second alternative of " + need, x.need(0, 3), second);
    }

    private static void hasNoSkillTwice() {
        Due.sentence("none twice, nor the skill itself");
        for (char skill = 'a'; skill <= 'h'; skill++) {
            for (char first = 'a'; first <= 'h'; first++) {
                String one = "p1k1r0:1" + skill + "/" + first;
                if (first == skill) {
                    Rows.wrongAt(one + ";", 10);
                    continue;
                }
                Rows.kept(one + ";");
                for (char second = 'a'; second <= 'h'; second++) {
                    if (second == skill || second == first) {
                        Rows.wrongAt(one + "/" + second + ";", 12);
                    } else {
                        Rows.kept(one + "/" + second + ";");
                    }
                }
            }
        }
        Rows.kept("p1k1r0:1a/b/c,1a/b/c,1b/a;");
        Rows.wrong("d1:1a/b,1c/!c;");
    }

    private static void mayHaveALimitFrom1To99() {
        Due.sentence("perhaps ~ and a LIMIT (1 .. 99 minutes)");
        Rows.range("p1k1r0:1a~", 1, 99, ";");
        Rows.range("p1k1r0:1a/b/c~", 1, 99, ",1a;");
        Rows.range("d1:1a~", 1, 99, ";");
        for (int limit : new int[] {1, 9, 10, 99}) {
            PlanText x = Due.with("p1k1r0:1a~" + limit + ";");
            x.plan(1, 1, 1, 0, 0);
            Due.same("limit " + limit, x.need(0, 4), limit);
        }
        PlanText y = Due.with("p1k1r0:1a;");
        y.plan(1, 1, 1, 0, 0);
        Due.same("no limit", y.need(0, 4), -1);
        Rows.wrong("p1k1r0:1a~5!/b;");
        Rows.wrong("p1k1r0:1a~5!~5;");
        Rows.wrong("p1k1r0:1!~5;");
    }
}
