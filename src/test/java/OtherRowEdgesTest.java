/** Terms: the rows of a default and of standby. */
public final class OtherRowEdgesTest {
    private static final String NINE = "d1:1a;d2:2a;d3:3a;d4:4a;d5:5a;d6:6a;d7:7a;d8:8a;d9:9a;";

    public static void main(String[] args) {
        givesADefaultAKindFrom1To9();
        givesADefaultNeedsAsAbove();
        takesNineDefaults();
        givesStandbyHoursAsAbove();
        givesStandbyCallsFrom1To9();
        givesStandbyACountAndASkill();
        takesEightStandbyRows();
        Due.end();
    }

    private static void givesADefaultAKindFrom1To9() {
        Due.sentence("A DEFAULT: d, a kind");
        Rows.range("d", 1, 9, ":1a;");
        for (int kind = 1; kind <= 9; kind++) {
            PlanText x = Due.with("d" + kind + ":1a;");
            for (int asked = 1; asked <= 9; asked++) {
                Due.same("default " + kind + " asked " + asked, x.plan(asked, 1, 1, 0, 0), asked == kind ? 0 : -1);
            }
        }
        Rows.wrong("d1!@1#1-1:1a;");
        Rows.wrong("d1![1-2]:1a;");
        Rows.wrong("d1!r0:1a;");
        Rows.wrong("d1!k1:1a;");
        Rows.wrong("d!k1:1a;");
    }

    private static void givesADefaultNeedsAsAbove() {
        Due.sentence("A DEFAULT: .. a colon, needs as above");
        Rows.wrong("d1!;");
        Rows.wrong("d1!1a;");
        Rows.wrong("d1:!;");
        Rows.kept("d1:1a;");
        Rows.kept("d1:9h/a/b~99,1a,1a~1,1a/b,1c;");
        Rows.wrong("d1:1a,1a,1a,1a,1a!,1a;");
        Rows.wrong("d1:1a,1a,1a,1a,1a!,");
        PlanText x = Due.with("d1:9h/a/b~99,1a,1a~1,1a/b,8c;");
        x.plan(1, 1, 1, 0, 0);
        Due.same("the first's limit", x.need(0, 4), 99);
        Due.same("the fifth's count", x.need(4, 0), 8);
        Due.unknown("a sixth", () -> x.need(5, 0));
    }

    private static void takesNineDefaults() {
        Due.sentence("A DEFAULT: all nine kinds");
        Rows.kept(NINE);
        PlanText x = Due.with(NINE);
        Due.same("defaults", x.count(2), 9);
        for (int kind = 1; kind <= 9; kind++) {
            Due.same("default " + kind, x.plan(kind, 1, 1, 0, 0), 0);
            Due.same("its need", x.need(0, 0), kind);
        }
        for (int kind = 1; kind <= 9; kind++) {
            Rows.wrong(NINE + "d!" + kind + ":1a;");
        }
        Rows.right(NINE + "p1k1r0:1a;s[0-0]1:1a;");
    }

    private static void givesStandbyHoursAsAbove() {
        Due.sentence("STANDBY: s, hours as above");
        Rows.range("s[", 0, 23, "-0]1:1a;");
        Rows.range("s[23-", 0, 23, "]1:1a;");
        Rows.wrong("s!1:1a;");
        Rows.wrong("s!:1a;");
        for (int first = 0; first <= 23; first++) {
            PlanText x = Due.with("s[" + first + "-5]1:1a;");
            for (int hour = 0; hour <= 23; hour++) {
                boolean within = first <= 5 ? hour >= first && hour <= 5 : hour >= first || hour <= 5;
                Due.same(first + "-5 at " + hour, x.standby(0, hour, 1, 0), within ? 1 : 0);
            }
        }
    }

    private static void givesStandbyCallsFrom1To9() {
        Due.sentence("CALLS (1 .. 9)");
        Rows.range("s[0-23]", 1, 9, ":1a;");
        for (int calls = 1; calls <= 9; calls++) {
            PlanText x = Due.with("s[0-23]" + calls + ":1a;");
            Due.same("one below " + calls, x.standby(0, 0, calls - 1, 0), 0);
            Due.same("calls " + calls, x.standby(0, 0, calls, 0), 1);
        }
    }

    private static void givesStandbyACountAndASkill() {
        Due.sentence("a colon, a count and a skill");
        Rows.range("s[0-23]1:", 1, 9, "h;");
        for (char skill = 'a'; skill <= 'h'; skill++) {
            Rows.kept("s[0-23]1:7" + skill + ";");
            PlanText x = Due.with("s[0-23]1:7" + skill + ";");
            for (int asked = 0; asked < 8; asked++) {
                Due.same(skill + " asked " + asked, x.standby(asked, 0, 1, 0), asked == skill - 'a' ? 7 : 0);
            }
        }
        Rows.wrong("s[0-23]1:1!`;");
        Rows.wrong("s[0-23]1:1!i;");
        Rows.wrong("s[0-23]1:!;");
        Rows.wrong("s[0-23]1:1!;");
        Rows.wrong("s[0-23]1!;");
        Rows.wrong("s[0-23]1:1a!/b;");
        Rows.wrong("s[0-23]1:1a!~5;");
        Rows.wrong("s[0-23]1:1a!,1b;");
    }

    private static void takesEightStandbyRows() {
        Due.sentence("at most 8 of these rows");
        String row = "s[0-23]1:9a;";
        for (int many = 0; many <= 8; many++) {
            Rows.kept(row.repeat(many));
            PlanText x = Due.with(row.repeat(many));
            Due.same("standby rows", x.count(3), many);
            Due.same("standby of " + many, x.standby(0, 0, 1, 0), 9 * many);
        }
        Rows.wrong(row.repeat(8) + "!" + row);
        Rows.wrong("p1k1r0:1a;" + row.repeat(8) + "d1:1a;!" + row);
        Rows.right(row.repeat(8) + "p1k1r0:1a;d1:1a;");
        PlanText two = new PlanText();
        Due.read(two, row.repeat(8), 0);
        Due.same("eight more in another text", Due.read(two, row.repeat(8), 1), 0);
        Due.same("rows of the latest", two.count(3), 8);
    }
}
