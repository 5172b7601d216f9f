/** Promise 12: print. */
public final class PrintTest {
    public static void main(String[] args) {
        printsWithoutBlanks();
        ordersRows();
        writesEveryNumber();
        tellsHowManyBytes();
        printsADaysEdition();
        refusesDaysOutsideTheRange();
        Due.end();
    }

    private static void same(String text) {
        due(text, text);
    }

    private static void due(String text, String want) {
        PlanText x = Due.with(text);
        Due.same("print of " + text, x.print(0), want.length());
        Due.same("print of " + text, Due.printed(x, 0), want);
        Due.same("byte behind the print of " + text, x.at(want.length()), -1);
        PlanText y = Due.with(want);
        Due.same("printed again", Due.printed(y, 0), want);
    }

    private static void printsWithoutBlanks() {
        Due.sentence("Prints a day's edition as a text without blanks");
        same("p40k9@99#100-999[0-23]r9:9h/g/f~99,1a~1,1b/a,1c/h/d;");
        due("   ", "");
        due("  p1k1r0:1a;  ", "p1k1r0:1a;");
        due(" p 40 k 9 @ 99 # 1 - 999 [ 23 - 0 ] r 0 : 1 a / b / c ~ 1 , 2 d ; d 9 : 9 h ; s [ 0 - 23 ] 1 : 9 a ; ",
            "p40k9@99#1-999[23-0]r0:1a/b/c~1,2d;d9:9h;s[0-23]1:9a;");
    }

    private static void ordersRows() {
        Due.sentence("plans by numbers, defaults by kinds, standby rows as they were told");
        due("p40k1r9:1a;p9k2r0:1a;p10k1r0:1a;p1k9r5:1a;", "p1k9r5:1a;p9k2r0:1a;p10k1r0:1a;p40k1r9:1a;");
        due("d9:1a;d1:2b;d5:1a;", "d1:2b;d5:1a;d9:1a;");
        same("s[9-9]9:9h;s[0-0]1:1a;s[9-9]9:9h;s[5-4]5:5e;s[0-0]1:1a;s[1-0]2:1a;s[23-0]1:1h;s[0-23]1:1a;");
        due("s[5-4]2:3d;d9:1a;p12k3r0:1a/c/b;d2:1b;p2k4@5#6-70r1:2c~30;s[0-0]1:1a;",
            "p2k4@5#6-70r1:2c~30;p12k3r0:1a/c/b;d2:1b;d9:1a;s[5-4]2:3d;s[0-0]1:1a;");
        // Needs and alternatives, too, stand as they were told.
        same("p1k1r0:9h,1a,5c/b/a,1a,1a;");
        same("p1k1@1#1-1[0-0]r0:1a,1a,1a,1a,1a;p10k1@10#10-11[10-9]r1:1b/c~10;d1:1a;d9:9h/a~9;s[23-0]9:9h;s[0-23]1:1a;");
    }

    private static void writesEveryNumber() {
        Due.sentence("Prints a day's edition as a text: numbers without 0 in front");
        for (int house : new int[] {1, 9, 10, 11, 99, 100, 101, 109, 110, 199, 200, 900, 909, 990, 999}) {
            same("p1k1@1#" + house + "-999r0:1a;");
            same("p1k1@1#1-" + house + "r0:1a;");
        }
        // Hours that take the whole day are printed when they were told, and only then.
        same("p1k1[0-23]r0:1a;");
        same("p1k1[1-0]r0:1a;");
        same("p1k1@1#1-999r0:1a;");
        same("p1k1r0:1a;");
    }

    private static void tellsHowManyBytes() {
        Due.sentence("print: how many bytes");
        same("");
        same("d1:1a;");
        StringBuilder text = new StringBuilder();
        for (int number = 1; number < 40; number = number == 7 ? 10 : number + 1) {
            text.append("p").append(number).append("k1r0:1a;");
        }
        PlanText x = Due.with(text.toString());
        Due.same("the longest", x.print(0), 400);
        for (int i = 0; i < 400; i++) {
            Due.same("byte " + i, x.at(i), text.charAt(i));
        }
        Due.same("behind it", x.at(400), -1);
    }

    private static void printsADaysEdition() {
        Due.sentence("Prints a day's edition");
        PlanText x = new PlanText();
        Due.same("no edition", x.print(0), 0);
        Due.read(x, "p1k1r0:1a;", 5);
        Due.read(x, "d1:1a;", 9);
        Due.same("a day ahead of all", x.print(4), 0);
        Due.same("the first", Due.printed(x, 5), "p1k1r0:1a;");
        Due.same("the first", Due.printed(x, 8), "p1k1r0:1a;");
        Due.same("the second", Due.printed(x, 9), "d1:1a;");
        Due.same("no bytes of the longer one", x.at(6), -1);
        Due.same("the second", Due.printed(x, 9999), "d1:1a;");
    }

    private static void refusesDaysOutsideTheRange() {
        Due.sentence("print: Range: the day");
        PlanText x = Due.with("p1k1r0:1a;");
        Due.same("the least day", x.print(0), 10);
        for (int day : new int[] {-1, 10000, Integer.MIN_VALUE, Integer.MAX_VALUE}) {
            Due.outside("day " + day, () -> x.print(day));
            Due.same("refusals leave the print", x.at(9), ';');
        }
        Due.outside("without an edition", () -> new PlanText().print(-1));
        Due.same("the greatest day", x.print(9999), 10);
    }
}
