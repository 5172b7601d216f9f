/** Promise 1: no editions; a town without units. */
public final class NewObjectTest {
    public static void main(String[] args) {
        PlanText x = new PlanText();
        Due.same("editions", x.count(0), 0);
        Due.same("plans", x.count(1), 0);
        Due.same("defaults", x.count(2), 0);
        Due.same("standby rows", x.count(3), 0);
        Due.same("place", x.place(), -1);
        Due.same("plan", x.plan(1, 1, 1, 0, 9999), -1);
        Due.unknown("need", () -> x.need(0, 0));
        Due.same("standby", x.standby(0, 0, 99, 9999), 0);
        Due.same("clash", x.clash(9999, 0), -1);
        Due.same("never", x.never(9999, 0), -1);
        Due.same("lacks", x.lacks(9999, 0), -1);
        Due.same("at without a print", x.at(0), -1);
        Due.same("print", x.print(9999), 0);
        Due.same("at of an empty print", x.at(0), -1);

        for (int skill = 0; skill < 8; skill++) {
            PlanText y = Due.with("p1k1r0:1" + (char) ('a' + skill) + ";");
            Due.same("no unit of skill " + skill, y.lacks(0, 0), 1);
        }

        PlanText first = Due.with("p1k1r0:1a;");
        first.town(0, 9);
        PlanText second = Due.with("p2k1r0:1a;");
        Due.same("objects share nothing: the town", second.lacks(0, 0), 2);
        Due.same("objects share nothing: the editions", first.plan(1, 1, 1, 1, 0), 1);
        Due.end();
    }
}
