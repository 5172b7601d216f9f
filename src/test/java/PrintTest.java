/** Promise 12: print. */
public final class PrintTest {
    public static void main(String[] args) {
        same("");
        same("p1k1r0:1a;");
        same("p40k9@99#100-999[0-23]r9:9h/g/f~99,1a~1,1b/a,1c/h/d;");
        same("p1k1@1#1-1[0-0]r0:1a,1a,1a,1a,1a;p10k1@10#10-11[10-9]r1:1b/c~10;d1:1a;d9:9h/a~9;s[23-0]9:9h;s[0-23]1:1a;");
        due(" s [ 5 - 4 ] 2 : 3 d ; d 9 : 1 a ; p 12 k 3 r 0 : 1 a / c / b ; d 2 : 1 b ; p 2 k 4 @ 5 # 6 - 70 r 1 : 2 c ~ 30 ; s [ 0 - 0 ] 1 : 1 a ; ",
            "p2k4@5#6-70r1:2c~30;p12k3r0:1a/c/b;d2:1b;d9:1a;s[5-4]2:3d;s[0-0]1:1a;");
        byDay();
        refuses();
        Due.end();
    }

    private static void same(String text) {
        due(text, text);
    }

    private static void due(String text, String want) {
        PlanText x = Due.with(text);
        Due.same("print of " + text, x.print(0), want.length());
        Due.same("print of " + text, Due.printed(x, 0), want);
        PlanText y = Due.with(want);
        Due.same("printed again", Due.printed(y, 0), want);
    }

    private static void byDay() {
        PlanText x = new PlanText();
        Due.read(x, "p1k1r0:1a;", 5);
        Due.read(x, "d1:1a;", 9);
        Due.same("no edition", x.print(4), 0);
        Due.same("the first", Due.printed(x, 8), "p1k1r0:1a;");
        Due.same("the second", Due.printed(x, 9), "d1:1a;");
        Due.same("no rows of the longer one", x.at(6), -1);

        StringBuilder text = new StringBuilder();
        for (int number = 1; number < 40; number = number == 7 ? 10 : number + 1) {
            text.append("p").append(number).append("k1r0:1a;");
        }
        PlanText y = Due.with(text.toString());
        Due.same("the longest", y.print(0), 400);
        for (int i = 0; i < 400; i++) {
            Due.same("byte " + i, y.at(i), text.charAt(i));
        }
        Due.same("behind it", y.at(400), -1);
    }

    private static void refuses() {
        PlanText x = Due.with("p1k1r0:1a;");
        x.print(0);
        Due.outside("day -1", () -> x.print(-1));
        Due.outside("day 10000", () -> x.print(10000));
        Due.outside("the greatest day", () -> x.print(Integer.MAX_VALUE));
        Due.same("refusals leave the print", x.at(9), ';');
    }
}
