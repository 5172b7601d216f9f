/** Terms: the row of a plan. */
public final class PlanRowEdgesTest {
    public static void main(String[] args) {
        hasANumberFrom1To40();
        hasAKindFrom1To9();
        mayTellAStreetFrom1To99();
        tellsAHouseFrom1To999();
        tellsALastHouseNotBelow();
        mayTellHoursFrom0To23();
        takesHoursThroughMidnight();
        hasARankFrom0To9();
        has1To5Needs();
        hasItsPartsInOrder();
        Due.end();
    }

    private static void hasANumberFrom1To40() {
        Due.sentence("A PLAN: p, its NUMBER (1 .. 40)");
        Rows.range("p", 1, 40, "k1r0:1a;");
        for (int number = 1; number <= 40; number++) {
            Due.same("plan " + number, Due.with("p" + number + "k1r0:1a;").plan(1, 1, 1, 0, 0), number);
        }
    }

    private static void hasAKindFrom1To9() {
        Due.sentence("k, a KIND (1 .. 9)");
        Rows.range("p1k", 1, 9, "r0:1a;");
        for (int kind = 1; kind <= 9; kind++) {
            PlanText x = Due.with("p1k" + kind + "r0:1a;");
            for (int asked = 1; asked <= 9; asked++) {
                Due.same("kind " + kind + " asked " + asked, x.plan(asked, 1, 1, 0, 0), asked == kind ? 1 : -1);
            }
        }
    }

    private static void mayTellAStreetFrom1To99() {
        Due.sentence("perhaps @ and a STREET (1 .. 99)");
        Rows.range("p1k1@", 1, 99, "#1-999r0:1a;");
        Rows.kept("p1k1r0:1a;");
        for (int street = 1; street <= 99; street += 49) {
            PlanText x = Due.with("p1k1@" + street + "#1-999r0:1a;");
            PlanText everywhere = Due.with("p1k1r0:1a;");
            for (int asked = 1; asked <= 99; asked++) {
                Due.same("street " + street + " asked " + asked, x.plan(1, asked, 1, 0, 0), asked == street ? 1 : -1);
                Due.same("no street asked " + asked, everywhere.plan(1, asked, 1, 0, 0), 1);
            }
        }
    }

    private static void tellsAHouseFrom1To999() {
        Due.sentence("#, a HOUSE (1 .. 999)");
        Rows.range("p1k1@1#", 1, 999, "-999r0:1a;");
        Rows.wrong("p1k1@1!r0:1a;");
        Rows.wrong("p1k1@1!;");
        Rows.wrong("p1k1@1![1-2]r0:1a;");
    }

    private static void tellsALastHouseNotBelow() {
        Due.sentence("-, a house not below");
        Rows.range("p1k1@1#1-", 1, 999, "r0:1a;");
        for (int from : new int[] {1, 2, 9, 10, 11, 99, 100, 101, 998, 999}) {
            String before = "p1k1@1#" + from + "-";
            int below = from - 1;
            Rows.kept(before + from + "r0:1a;");
            Rows.kept(before + Math.min(from + 1, 999) + "r0:1a;");
            Rows.kept(before + 999 + "r0:1a;");
            Rows.wrongAt(before + below + "r0:1a;", before.length() + Integer.toString(below).length() - 1);
            Rows.wrongAt(before + "0r0:1a;", before.length());
            Rows.wrongAt(before + "1000r0:1a;", before.length() + (from <= 100 ? 3 : 2));
        }
        Rows.wrong("p1k1@1#1!r0:1a;");
    }

    private static void mayTellHoursFrom0To23() {
        Due.sentence("perhaps HOURS ([, an hour 0 .. 23, -, an hour, ]");
        Rows.range("p1k1[", 0, 23, "-12]r0:1a;");
        Rows.range("p1k1[12-", 0, 23, "]r0:1a;");
        Rows.range("p1k1@1#1-1[", 0, 23, "-0]r0:1a;");
        Rows.range("p1k1@1#1-1[23-", 0, 23, "]r0:1a;");
        Rows.wrong("p1k1[1!]r0:1a;");
        Rows.wrong("p1k1[1-2!r0:1a;");
        Rows.wrong("p1k1[!]r0:1a;");
        PlanText x = Due.with("p1k1r0:1a;");
        for (int hour = 0; hour <= 23; hour++) {
            Due.same("no hours told, hour " + hour, x.plan(1, 1, 1, hour, 0), 1);
        }
    }

    private static void takesHoursThroughMidnight() {
        Due.sentence("both of them and those between, through midnight when the second is less");
        for (int first = 0; first <= 23; first++) {
            for (int last = 0; last <= 23; last++) {
                PlanText x = Due.with("p1k1[" + first + "-" + last + "]r0:1a;");
                boolean[] within = new boolean[24];
                for (int hour = first; hour != last; hour = (hour + 1) % 24) {
                    within[hour] = true;
                }
                within[last] = true;
                for (int hour = 0; hour <= 23; hour++) {
                    Due.same(first + "-" + last + " at " + hour, x.plan(1, 1, 1, hour, 0), within[hour] ? 1 : -1);
                }
            }
        }
    }

    private static void hasARankFrom0To9() {
        Due.sentence("r and a RANK (0 .. 9)");
        Rows.range("p1k1r", 0, 9, ":1a;");
        Rows.wrong("p1k1!:1a;");
        for (int rank = 0; rank < 9; rank++) {
            PlanText x = Due.with("p1k1r" + rank + ":1a;p2k1r" + (rank + 1) + ":1a;");
            Due.same("rank " + rank + " and the next", x.plan(1, 1, 1, 0, 0), 2);
        }
    }

    private static void has1To5Needs() {
        Due.sentence("a colon, then 1 to 5 NEEDS with commas between");
        String needs = "1a,2b,3c,4d,5e,6f";
        Rows.wrong("p1k1r0!;");
        Rows.wrong("p1k1r0!1a;");
        Rows.wrong("p1k1r0:!;");
        Rows.wrong("p1k1r0:!,1a;");
        for (int many = 1; many <= 5; many++) {
            String text = "p1k1r0:" + needs.substring(0, 3 * many - 1);
            Rows.kept(text + ";");
            Rows.wrong(text + (many < 5 ? ",!;" : "!,;"));
            Rows.wrong(text + "!1a;");
            Rows.wrong(text + "!:1a;");
            PlanText x = Due.with(text + ";");
            x.plan(1, 1, 1, 0, 0);
            for (int i = 0; i < 6; i++) {
                int asked = i;
                Due.same("need " + i + " of " + many, Due.outcome(() -> x.need(asked, 0)),
                    i < many ? "" + (i + 1) : "throws.IllegalArgumentException");
            }
        }
        Rows.wrong("p1k1r0:1a,2b,3c,4d,5e!,6f;");
        Rows.wrong("p1k1r0:1a,2b,3c,4d,5e!,");
        Rows.wrong("p1k1r0:1a/b/c~99,1a/b/c~99,1a/b/c~99,1a/b/c~99,1a/b/c~99!,1a;");
    }

    private static void hasItsPartsInOrder() {
        Due.sentence("A PLAN: p .. k .. perhaps @ .. perhaps HOURS .. r .. a colon");
        Rows.wrong("p1!r0k1:1a;");
        Rows.wrong("p1!@1#1-1k1r0:1a;");
        Rows.wrong("p1k1[1-2]!@1#1-1r0:1a;");
        Rows.wrong("p1k1[1-2]![1-2]r0:1a;");
        Rows.wrong("p1k1@1#1-1!@1#1-1r0:1a;");
        Rows.wrong("p1k1r0![1-2]:1a;");
        Rows.wrong("p1k1r0!@1#1-1:1a;");
        Rows.wrong("p1k1r0!r0:1a;");
        Rows.wrong("p1k1!k1r0:1a;");
        Rows.wrong("p1!p2k1r0:1a;");
    }
}
