/** Promise 7: need. */
public final class NeedTest {
    public static void main(String[] args) {
        tells();
        keepsTheLatest();
        knowsNoneBeforeAPlanIsTold();
        refusesUnknownNeeds();
        refusesUnknownWhats();
        Due.end();
    }

    private static void due(PlanText x, int i, int... want) {
        for (int what = 0; what < want.length; what++) {
            Due.same("need " + i + " " + what, x.need(i, what), want[what]);
        }
    }

    private static void tells() {
        Due.sentence("what 0 its count, 1 its skill, 2 and 3 its alternatives (-1), 4 its limit (-1)");
        PlanText x = Due.with("p1k1r0:1a,2b/c~15,3c/b/a,9h~99,5d/e/f~1;d2:4e/d;");
        x.plan(1, 1, 1, 1, 0);
        due(x, 0, 1, 0, -1, -1, -1);
        due(x, 1, 2, 1, 2, -1, 15);
        due(x, 2, 3, 2, 1, 0, -1);
        due(x, 3, 9, 7, -1, -1, 99);
        due(x, 4, 5, 3, 4, 5, 1);
        Due.unknown("a sixth", () -> x.need(5, 0));
        x.plan(2, 1, 1, 1, 0);
        due(x, 0, 4, 4, 3, -1, -1);
        Due.unknown("the default has one", () -> x.need(1, 0));
    }

    private static void keepsTheLatest() {
        Due.sentence("Of need i (0 first) of the latest plan() that was told");
        PlanText x = Due.with("p1k1r0:7g;");
        Due.unknown("none was asked", () -> x.need(0, 0));
        x.plan(1, 1, 1, 1, 0);
        Due.read(x, "p1k1r0:2b,1a;", 0);
        due(x, 0, 7, 6, -1, -1, -1);
        Due.unknown("the earlier edition's", () -> x.need(1, 0));
        Due.outside("refused", () -> x.plan(1, 1, 1, 1, -1));
        Due.unknown("refused", () -> x.plan(0, 1, 1, 1, 0));
        due(x, 0, 7, 6, -1, -1, -1);
        x.plan(1, 1, 1, 1, 0);
        due(x, 0, 2, 1, -1, -1, -1);
        Due.same("none", x.plan(2, 1, 1, 1, 0), -1);
        Due.unknown("none has no needs", () -> x.need(0, 0));
    }

    private static void knowsNoneBeforeAPlanIsTold() {
        Due.sentence("need i (0 first) of the latest plan() that was told: none told");
        PlanText x = Due.with("p1k1r0:1a;d2:1b;");
        Due.unknown("plan() was not asked", () -> x.need(0, 0));
        Due.unknown("a plan() that is refused", () -> x.plan(0, 1, 1, 1, 0));
        Due.unknown("tells none", () -> x.need(0, 0));
        Due.outside("a plan() that is refused", () -> x.plan(1, 1, 1, 24, 0));
        Due.unknown("tells none", () -> x.need(0, 0));
        Due.same("a call that has none", x.plan(3, 1, 1, 1, 0), -1);
        Due.unknown("tells none", () -> x.need(0, 0));
    }

    private static void refusesUnknownNeeds() {
        Due.sentence("Unknown: there is none such");
        for (int many = 1; many <= 5; many++) {
            PlanText x = Due.with("p1k1r0:7a" + ",7a".repeat(many - 1) + ";d2:8b" + ",8b".repeat(many - 1) + ";");
            for (int kind = 1; kind <= 2; kind++) {
                x.plan(kind, 1, 1, 1, 0);
                Due.same("the first of " + many, x.need(0, 0), 6 + kind);
                Due.same("the last of " + many, x.need(many - 1, 0), 6 + kind);
                for (int i : new int[] {-1, many, many + 1, 5, 6, Integer.MIN_VALUE, Integer.MAX_VALUE}) {
                    for (int what = 0; what <= 4; what++) {
                        int asked = what;
                        Due.unknown("need " + i + " of " + many, () -> x.need(i, asked));
                    }
                }
            }
        }
        // Fewer needs behind more: none of the earlier plan's are left.
        PlanText y = Due.with("p1k1r0:1a,2b,3c,4d,5e;p2k2r0:6f;");
        y.plan(1, 1, 1, 1, 0);
        y.plan(2, 1, 1, 1, 0);
        Due.same("the first", y.need(0, 0), 6);
        Due.unknown("a second", () -> y.need(1, 0));
    }

    private static void refusesUnknownWhats() {
        Due.sentence("or no such what");
        PlanText x = Due.with("p1k1r0:9h/g/f~99;");
        x.plan(1, 1, 1, 1, 0);
        due(x, 0, 9, 7, 6, 5, 99);
        for (int what : new int[] {-1, 5, 6, Integer.MIN_VALUE, Integer.MAX_VALUE}) {
            Due.unknown("what " + what, () -> x.need(0, what));
            Due.unknown("both", () -> x.need(1, what));
        }
        due(x, 0, 9, 7, 6, 5, 99);
    }
}
