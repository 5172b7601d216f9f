/** Promise 1: a new object. */
public final class NewObjectTest {
    public static void main(String[] args) {
        hasNoEditions();
        hasATownWithoutUnits();
        sharesNothing();
        Due.end();
    }

    private static void hasNoEditions() {
        Due.sentence("PlanText(): No editions");
        PlanText x = new PlanText();
        for (int what = 0; what <= 3; what++) {
            Due.same("count " + what, x.count(what), 0);
        }
        Due.same("place", x.place(), -1);
        Due.unknown("need", () -> x.need(0, 0));
        Due.same("at without a print", x.at(0), -1);
        for (int day : new int[] {0, 9999}) {
            Due.same("plan", x.plan(1, 1, 1, 0, day), -1);
            Due.unknown("need of no plan", () -> x.need(0, 0));
            Due.same("standby", x.standby(0, 0, 99, day), 0);
            Due.same("clash", x.clash(day, 0), -1);
            Due.same("never", x.never(day, 0), -1);
            Due.same("lacks", x.lacks(day, 0), -1);
            Due.same("print", x.print(day), 0);
            Due.same("at of an empty print", x.at(0), -1);
        }
        Due.same("an empty tape", x.sign(' ', 1), 1);
    }

    private static void hasATownWithoutUnits() {
        Due.sentence("PlanText(): a town without units");
        for (char skill = 'a'; skill <= 'h'; skill++) {
            PlanText x = Due.with("p1k1r0:1" + skill + ";");
            Due.same("no unit of skill " + skill, x.lacks(0, 0), 1);
        }
    }

    private static void sharesNothing() {
        Due.sentence("PlanText(): what another object has been told is not in a new one");
        PlanText first = Due.with("p1k1r0:1a;");
        first.town(0, 9);
        first.plan(1, 1, 1, 1, 0);
        first.print(0);
        Due.tape(first, "x");
        Due.notNow("a wrong text", () -> first.read(0));
        Due.tape(first, "x");
        PlanText second = new PlanText();
        Due.same("place", second.place(), -1);
        Due.same("editions", second.count(0), 0);
        Due.same("print", second.at(0), -1);
        Due.unknown("needs", () -> second.need(0, 0));
        Due.same("the tape", Due.read(second, "p2k1r0:1a;", 0), 1);
        Due.same("the town", second.lacks(0, 0), 2);
        Due.same("the editions", first.plan(1, 1, 1, 1, 0), 1);
        // Two tapes, filled by turns.
        PlanText third = new PlanText();
        PlanText fourth = new PlanText();
        third.sign(Due.packed("p3k1r0:"), 7);
        fourth.sign(Due.packed("p4k2r1:"), 7);
        third.sign(Due.packed("3c;"), 3);
        fourth.sign(Due.packed("4d;"), 3);
        Due.same("one tape", Due.outcome(() -> third.read(0)), "1");
        Due.same("the other tape", Due.outcome(() -> fourth.read(0)), "1");
        Due.same("one's print", third.print(0), 10);
        Due.same("the other's print", Due.printed(fourth, 0), "p4k2r1:4d;");
        Due.same("one's print still", third.at(1), '3');
    }
}
