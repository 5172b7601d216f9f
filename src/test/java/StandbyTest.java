/** Promise 8: standby. */
public final class StandbyTest {
    public static void main(String[] args) {
        sums();
        refusesUnknownSkills();
        refusesNumbersOutsideTheirRange();
        Due.end();
    }

    private static void sums() {
        Due.sentence("standby: Standby.");
        PlanText x = Due.with("s[20-6]3:1a;s[0-23]1:2a;s[6-6]9:9a;s[5-20]1:4h;s[5-20]1:4h;");
        Due.same("both", x.standby(0, 21, 3, 0), 3);
        Due.same("calls are below", x.standby(0, 21, 2, 0), 2);
        Due.same("other hours", x.standby(0, 12, 99, 0), 2);
        Due.same("no calls", x.standby(0, 21, 0, 0), 0);
        Due.same("all three", x.standby(0, 6, 9, 0), 12);
        Due.same("but for the last", x.standby(0, 6, 8, 0), 3);
        Due.same("another hour", x.standby(0, 7, 99, 0), 2);
        Due.same("another skill", x.standby(1, 6, 99, 0), 0);
        Due.same("a row twice", x.standby(7, 5, 1, 0), 8);
        Due.same("its last hour", x.standby(7, 20, 1, 0), 8);
        Due.same("behind it", x.standby(7, 21, 1, 0), 0);
        Due.same("ahead of it", x.standby(7, 4, 1, 0), 0);

        PlanText y = new PlanText();
        Due.read(y, "s[0-23]1:9a;".repeat(8), 7);
        Due.same("eight rows", y.standby(0, 0, 1, 7), 72);
        Due.same("a day ahead", y.standby(0, 0, 1, 6), 0);
        Due.same("the last day", y.standby(0, 23, 99, 9999), 72);
    }

    private static void refusesUnknownSkills() {
        Due.sentence("Unknown: no such skill");
        PlanText x = Due.with("s[0-23]1:1a;s[0-23]1:8h;");
        for (int skill : new int[] {-1, 8, Integer.MIN_VALUE, Integer.MAX_VALUE}) {
            Due.unknown("skill " + skill, () -> x.standby(skill, 0, 0, 0));
            Due.unknown("unknown ahead of range", () -> x.standby(skill, 24, 100, -1));
        }
        Due.same("the least skill", x.standby(0, 0, 1, 0), 1);
        Due.same("the greatest skill", x.standby(7, 0, 1, 0), 8);
    }

    private static void refusesNumbersOutsideTheirRange() {
        Due.sentence("range: the hour, calls (0 .. 99), the day");
        PlanText x = Due.with("s[0-23]1:1a;");
        for (int v : new int[] {-1, 24, 32, Integer.MIN_VALUE, Integer.MAX_VALUE}) {
            Due.outside("hour " + v, () -> x.standby(0, v, 1, 0));
        }
        for (int v : new int[] {-1, 100, Integer.MIN_VALUE, Integer.MAX_VALUE}) {
            Due.outside("calls " + v, () -> x.standby(0, 0, v, 0));
        }
        for (int v : new int[] {-1, 10000, Integer.MIN_VALUE, Integer.MAX_VALUE}) {
            Due.outside("day " + v, () -> x.standby(0, 0, 1, v));
        }
        Due.outside("without an edition", () -> new PlanText().standby(0, 24, 0, 0));
        Due.same("the least", x.standby(0, 0, 0, 0), 0);
        Due.same("the least with calls", x.standby(0, 0, 1, 0), 1);
        Due.same("the greatest", x.standby(0, 23, 99, 9999), 1);
    }
}
