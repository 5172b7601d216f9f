/** Promise 5: town. */
public final class TownTest {
    public static void main(String[] args) {
        setsTheUnitsOfASkill();
        refusesUnknownSkills();
        refusesNumbersOutsideTheRange();
        Due.end();
    }

    private static void setsTheUnitsOfASkill() {
        Due.sentence("The town's units of a skill (0 a .. 7 h).");
        for (int skill = 0; skill <= 7; skill++) {
            PlanText x = Due.with("p1k1r0:1" + (char) ('a' + skill) + ";p2k1r0:9" + (char) ('a' + skill) + ";");
            for (int[] row : new int[][] {{0, 1}, {1, 2}, {8, 2}, {9, -1}, {99, -1}, {8, 2}, {0, 1}}) {
                x.town(skill, row[0]);
                Due.same(row[0] + " units of skill " + skill, x.lacks(0, 0), row[1]);
            }
        }
        PlanText y = new PlanText();
        y.town(0, 1);
        Due.read(y, "p1k1r0:1a;p2k1r0:1b;", 0);
        Due.same("told ahead of the edition", y.lacks(0, 0), 2);
        y.town(1, 1);
        Due.same("the other skill's stay", y.lacks(0, 0), -1);
    }

    private static void refusesUnknownSkills() {
        Due.sentence("Unknown: no such skill");
        PlanText x = Due.with("p1k1r0:1a;p2k1r0:1h;");
        x.town(0, 1);
        x.town(7, 1);
        for (int skill : new int[] {-1, 8, Integer.MIN_VALUE, Integer.MAX_VALUE}) {
            Due.unknown("skill " + skill, () -> Due.town(x, skill, 0));
            Due.unknown("unknown ahead of range", () -> Due.town(x, skill, -1));
            Due.unknown("unknown ahead of range", () -> Due.town(x, skill, 100));
        }
        Due.same("nothing changed", x.lacks(0, 0), -1);
    }

    private static void refusesNumbersOutsideTheRange() {
        Due.sentence("range: the number");
        PlanText x = Due.with("p1k1r0:1a;p2k1r0:1h;");
        for (int skill : new int[] {0, 7}) {
            x.town(skill, 1);
            for (int n : new int[] {-1, 100, Integer.MIN_VALUE, Integer.MAX_VALUE}) {
                Due.outside(n + " units of " + skill, () -> Due.town(x, skill, n));
            }
        }
        Due.same("one unit stays", x.lacks(0, 0), -1);
        x.town(0, 0);
        for (int n : new int[] {-1, 100}) {
            Due.outside(n + " units", () -> Due.town(x, 0, n));
        }
        Due.same("none stays none", x.lacks(0, 0), 1);
    }
}
