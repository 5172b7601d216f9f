/** Promise 2: sign. */
public final class SignTest {
    public static void main(String[] args) {
        takesTheLowestBytesTheHighestFirst();
        takesAnyByte();
        tellsHowMany();
        refusesBytesOutsideTheRange();
        hasRoomFor400();
        Due.end();
    }

    private static void takesTheLowestBytesTheHighestFirst() {
        Due.sentence("n bytes (1 .. 8; the lowest n, the highest of these first)");
        String text = "p1k1r0:1a/b;";
        for (int n = 1; n <= 8; n++) {
            for (long above : new long[] {0, -1, 0x7878787878787878L}) {
                PlanText x = new PlanText();
                for (int from = 0; from < text.length(); from += n) {
                    String part = text.substring(from, Math.min(from + n, text.length()));
                    long higher = part.length() == 8 ? 0 : above << 8 * part.length();
                    x.sign(higher | Due.packed(part), part.length());
                }
                Due.same(n + " at once, read", Due.outcome(() -> x.read(0)), "1");
                Due.same(n + " at once, printed", Due.printed(x, 0), text);
            }
        }
    }

    private static void takesAnyByte() {
        Due.sentence("n bytes (1 .. 8; the lowest n, the highest of these first)");
        for (int sign = 0; sign <= 255; sign++) {
            PlanText x = new PlanText();
            x.sign(0x2000L | sign, 2);
            String due = sign == ' ' ? "0" : "throws.IllegalStateException";
            Due.same("read of byte " + sign, Due.outcome(() -> x.read(0)), due);
            boolean begins = sign == 'p' || sign == 'd' || sign == 's';
            Due.same("place of byte " + sign, x.place(), sign == ' ' ? -1 : begins ? 2 : 1);
        }
    }

    private static void tellsHowMany() {
        Due.sentence("more on the tape: how many");
        PlanText x = new PlanText();
        int length = 0;
        for (int n = 1; n <= 8; n++) {
            length += n;
            Due.same("bytes", x.sign(0x2020202020202020L, n), length);
        }
        x.read(0);
        Due.same("bytes of the next text", x.sign(' ', 1), 1);
    }

    private static void refusesBytesOutsideTheRange() {
        Due.sentence("Range: n");
        PlanText x = new PlanText();
        x.sign(Due.packed("p1"), 2);
        for (int n : new int[] {0, -1, 9, 10, 16, Integer.MIN_VALUE, Integer.MAX_VALUE}) {
            Due.outside("sign of " + n, () -> x.sign(Due.packed("xxxxxxxx"), n));
        }
        Due.same("the greatest", x.sign(Due.packed("k1r0:1a/"), 8), 10);
        Due.same("the least", x.sign('b', 1), 11);
        Due.same("and again", x.sign(';', 1), 12);
        Due.same("nothing else was taken", x.read(0), 1);
    }

    private static void hasRoomFor400() {
        Due.sentence("no room: there would be more than 400");
        for (int n = 1; n <= 8; n++) {
            int bytes = n;
            PlanText x = new PlanText();
            Due.tape(x, " ".repeat(400 - n));
            Due.same("up to 400 by " + n, x.sign(0x2020202020202020L, n), 400);
            for (int more = 1; more <= 8; more++) {
                int above = more;
                Due.noRoom("401 and above by " + more, () -> x.sign(0, above));
            }
            PlanText y = new PlanText();
            Due.tape(y, " ".repeat(401 - n));
            Due.noRoom("401 by " + n, () -> y.sign(0x7878787878787878L, bytes));
            Due.outside("range ahead of room", () -> y.sign(0, 9));
            if (n > 1) {
                Due.same("one below", y.sign(0x2020202020202020L, n - 1), 400);
            }
            Due.same("nothing of what was refused", Due.outcome(() -> y.read(0)), "0");
            Due.same("room again", y.sign(0x2020202020202020L, 8), 8);
        }
        Due.noRoom("the greatest bytes", () -> filled().sign(Long.MAX_VALUE, 8));
        Due.noRoom("the least bytes", () -> filled().sign(Long.MIN_VALUE, 1));
    }

    private static PlanText filled() {
        PlanText x = new PlanText();
        Due.tape(x, " ".repeat(400));
        return x;
    }
}
