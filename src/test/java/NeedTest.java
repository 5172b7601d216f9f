/** Promise 7: need. */
public final class NeedTest {
    public static void main(String[] args) {
        tells();
        keepsTheLatest();
        refuses();
        Due.end();
    }

    private static void due(PlanText x, int i, int... want) {
        for (int what = 0; what < want.length; what++) {
            Due.same("need " + i + " " + what, x.need(i, what), want[what]);
        }
    }

    private static void tells() {
        PlanText x = Due.with("p1k1r0:1a,2b/c~15,3c/b/a,9h~99,5d/e/f~1;d2:4e/d;");
        x.plan(1, 1, 1, 1, 0);
        due(x, 0, 1, 0, -1, -1, -1);
        due(x, 1, 2, 1, 2, -1, 15);
        due(x, 2, 3, 2, 1, 0, -1);
        due(x, 3, 9, 7, -1, -1, 99);
        due(x, 4, 5, 3, 4, 5, 1);
        Due.unknown("a sixth", () -> x.need(5, 0));
        x.plan(2, 1, 1, 1, 0);
        due(x, 0, 4, 4, 3, -1, -1);
        Due.unknown("the default has one", () -> x.need(1, 0));
    }

    private static void keepsTheLatest() {
        PlanText x = Due.with("p1k1r0:7g;");
        Due.unknown("none was asked", () -> x.need(0, 0));
        x.plan(1, 1, 1, 1, 0);
        Due.read(x, "p1k1r0:2b,1a;", 0);
        due(x, 0, 7, 6, -1, -1, -1);
        Due.unknown("the earlier edition's", () -> x.need(1, 0));
        Due.outside("refused", () -> x.plan(1, 1, 1, 1, -1));
        Due.unknown("refused", () -> x.plan(0, 1, 1, 1, 0));
        due(x, 0, 7, 6, -1, -1, -1);
        x.plan(1, 1, 1, 1, 0);
        due(x, 0, 2, 1, -1, -1, -1);
        Due.same("none", x.plan(2, 1, 1, 1, 0), -1);
        Due.unknown("none has no needs", () -> x.need(0, 0));
    }

    private static void refuses() {
        PlanText x = Due.with("p1k1r0:1a,1b;");
        x.plan(1, 1, 1, 1, 0);
        int[] wrong = {-1, 5, 6, Integer.MIN_VALUE, Integer.MAX_VALUE};
        for (int v : wrong) {
            Due.unknown("need " + v, () -> x.need(v, 0));
            Due.unknown("what " + v, () -> x.need(0, v));
            Due.unknown("both " + v, () -> x.need(v, v));
        }
        Due.unknown("just behind", () -> x.need(2, 0));
        due(x, 1, 1, 1, -1, -1, -1);
    }
}
