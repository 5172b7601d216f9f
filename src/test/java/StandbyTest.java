/** Promise 8: standby. */
public final class StandbyTest {
    public static void main(String[] args) {
        sums();
        refuses();
        Due.end();
    }

    private static void sums() {
        PlanText x = Due.with("s[20-6]3:1a;s[0-23]1:2a;s[6-6]9:9a;s[5-20]1:4h;s[5-20]1:4h;");
        Due.same("both", x.standby(0, 21, 3, 0), 3);
        Due.same("calls are below", x.standby(0, 21, 2, 0), 2);
        Due.same("other hours", x.standby(0, 12, 99, 0), 2);
        Due.same("no calls", x.standby(0, 21, 0, 0), 0);
        Due.same("all three", x.standby(0, 6, 9, 0), 12);
        Due.same("but for the last", x.standby(0, 6, 8, 0), 3);
        Due.same("another hour", x.standby(0, 7, 99, 0), 2);
        Due.same("another skill", x.standby(1, 6, 99, 0), 0);
        Due.same("a row twice", x.standby(7, 5, 1, 0), 8);
        Due.same("its last hour", x.standby(7, 20, 1, 0), 8);
        Due.same("behind it", x.standby(7, 21, 1, 0), 0);
        Due.same("ahead of it", x.standby(7, 4, 1, 0), 0);

        PlanText y = new PlanText();
        Due.read(y, "s[0-23]1:9a;".repeat(8), 7);
        Due.same("eight rows", y.standby(0, 0, 1, 7), 72);
        Due.same("a day ahead", y.standby(0, 0, 1, 6), 0);
        Due.same("the last day", y.standby(0, 23, 99, 9999), 72);
    }

    private static void refuses() {
        PlanText x = Due.with("s[0-23]1:1a;");
        int[] skills = {-1, 8, Integer.MIN_VALUE, Integer.MAX_VALUE};
        for (int skill : skills) {
            Due.unknown("skill " + skill, () -> x.standby(skill, 0, 0, 0));
            Due.unknown("unknown ahead of range", () -> x.standby(skill, 24, 100, -1));
        }
        Due.outside("hour -1", () -> x.standby(0, -1, 1, 0));
        Due.outside("hour 24", () -> x.standby(0, 24, 1, 0));
        Due.outside("calls -1", () -> x.standby(0, 0, -1, 0));
        Due.outside("calls 100", () -> x.standby(0, 0, 100, 0));
        Due.outside("day -1", () -> x.standby(0, 0, 1, -1));
        Due.outside("day 10000", () -> x.standby(0, 0, 1, 10000));
        Due.same("standby", x.standby(0, 0, 1, 0), 1);
    }
}
