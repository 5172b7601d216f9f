/** Promise 2: sign. */
public final class SignTest {
    public static void main(String[] args) {
        ordersBytes();
        refuses();
        fillsTheTape();
        Due.end();
    }

    private static void ordersBytes() {
        PlanText x = new PlanText();
        Due.same("8 bytes", x.sign(Due.packed("p1k1r0:1"), 8), 8);
        Due.same("2 bytes, the higher ones left out", x.sign(0x7878787878780000L | Due.packed("a;"), 2), 10);
        Due.same("read", x.read(0), 1);
        Due.same("printed", Due.printed(x, 0), "p1k1r0:1a;");

        PlanText y = new PlanText();
        String text = "d9:9h/a/b~99;";
        for (int i = 0; i < text.length(); i++) {
            Due.same("one byte", y.sign(-256L | text.charAt(i), 1), i + 1);
        }
        y.read(0);
        Due.same("byte by byte", Due.printed(y, 0), text);

        PlanText z = new PlanText();
        z.sign(-1L, 8);
        Due.refused("bytes of 255", IllegalStateException.class, () -> z.read(0));
        Due.same("the first of them", z.place(), 0);
        z.sign(0x20A0L, 2);
        Due.refused("a byte of 160", IllegalStateException.class, () -> z.read(0));
        Due.same("160 is no blank", z.place(), 1);
    }

    private static void refuses() {
        PlanText x = new PlanText();
        x.sign(Due.packed("p1"), 2);
        int[] outside = {0, -1, 9, Integer.MIN_VALUE, Integer.MAX_VALUE};
        for (int n : outside) {
            Due.outside("sign of " + n, () -> x.sign(5, n));
        }
        Due.same("nothing was added", x.sign(Due.packed("k1r0:1a;"), 8), 10);
        Due.same("read", x.read(0), 1);
    }

    private static void fillsTheTape() {
        PlanText x = new PlanText();
        String blanks = "        ";
        for (int i = 1; i <= 48; i++) {
            Due.same("blanks", x.sign(Due.packed(blanks), 8), 8 * i);
        }
        Due.same("391", x.sign(Due.packed(blanks), 7), 391);
        Due.same("399", x.sign(Due.packed("p1k1r0:1"), 8), 399);
        Due.refused("401", UnsupportedOperationException.class, () -> x.sign(Due.packed("a;"), 2));
        Due.refused("407", UnsupportedOperationException.class, () -> x.sign(0, 8));
        Due.outside("range ahead of room", () -> x.sign(0, 9));
        Due.same("400", x.sign('a', 1), 400);
        Due.refused("401", UnsupportedOperationException.class, () -> x.sign(' ', 1));
        Due.refused("wrong", IllegalStateException.class, () -> x.read(0));
        Due.same("its length", x.place(), 400);
        Due.same("used up", x.sign(' ', 1), 1);
    }
}
