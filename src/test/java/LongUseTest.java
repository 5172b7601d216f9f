/** An object answers as it should up to its 512th call. */
public final class LongUseTest {
    private interface Use {
        long call(PlanText x, int i);
    }

    public static void main(String[] args) {
        Due.sentence("An object is used for at most 512 calls after it has been made");
        reads();
        signs();
        asks();
        Due.end();
    }

    private static void reads() {
        PlanText x = new PlanText();
        for (int i = 1; i <= 6; i++) {
            Due.same("read " + i, x.read(i), 0);
        }
        for (int call = 7; call < 512; call++) {
            Due.noRoom("read at call " + call, () -> x.read(9999));
        }
        Due.same("the 512th call", x.count(0), 6);
    }

    private static void signs() {
        PlanText x = new PlanText();
        for (int call = 1; call <= 400; call++) {
            Due.same("sign at call " + call, x.sign(' ', 1), call);
        }
        for (int call = 401; call < 512; call++) {
            Due.noRoom("sign at call " + call, () -> x.sign(' ', 1));
        }
        Due.same("the 512th call", x.read(0), 0);
    }

    private static void asks() {
        ask("town", 0, (x, i) -> Due.town(x, i % 8, i % 100));
        ask("plan", 1, (x, i) -> x.plan(1, 1, 1, i % 24, i));
        ask("standby", 1, (x, i) -> x.standby(0, i % 24, 1, i));
        ask("clash", 102, (x, i) -> x.clash(i, 0));
        ask("never", 2, (x, i) -> x.never(i, 0));
        ask("lacks", 1, (x, i) -> x.lacks(i, 0));
        ask("print", 32, (x, i) -> x.print(i));
        ask("at", -1, (x, i) -> x.at(i));
        ask("count", 1, (x, i) -> x.count(0));
        ask("place", -1, (x, i) -> x.place());
    }

    private static void ask(String what, int due, Use use) {
        PlanText x = Due.with("p1k1r0:1a;p2k1r0:1a;s[0-23]1:1a;");
        for (int call = 6; call <= 512; call++) {
            Due.same(what + " at call " + call, use.call(x, call), due);
        }
    }
}
