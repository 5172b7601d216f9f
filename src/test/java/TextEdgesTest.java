/** Terms: a text, its rows, its blanks and its numbers. */
public final class TextEdgesTest {
    private static final String ALL = "p40k9@99#1-999[23-10]r9:9h/a/b~99,1a~10;d9:1a,2b;s[10-23]9:9h;";

    public static void main(String[] args) {
        hasAtMost400Bytes();
        mayBeEmpty();
        endsEachRowWithASemicolon();
        mayHaveBlanksBetweenSigns();
        hasNoBlanksWithinNumbers();
        hasNumbersOfOneToThreeDigits();
        hasNumbersWithoutZeroInFront();
        Due.end();
    }

    /** 37 plans of 10 and 11 bytes. */
    private static String of400Bytes() {
        StringBuilder text = new StringBuilder();
        for (int number = 1; number < 40; number = number == 7 ? 10 : number + 1) {
            text.append("p").append(number).append("k1r0:1a;");
        }
        return text.toString();
    }

    private static void hasAtMost400Bytes() {
        Due.sentence("A TEXT has at most 400 bytes");
        String text = of400Bytes();
        Due.same("bytes", text.length(), 400);
        Rows.kept(text);
        Rows.wrongAt(text.substring(0, 399), 399);
        Rows.wrongAt(text.substring(0, 399) + ":", 399);
        Rows.wrongAt(text.substring(0, 399) + " ", 400);
        Rows.kept(text.substring(0, 389));
        Rows.right(" ".repeat(400));
        Rows.right(" ".repeat(390) + "p1k1r0:1a;");
        Rows.right("p1k1r0:1a;" + " ".repeat(390));
        Rows.wrongAt(" ".repeat(391) + "p1k1r0:1a", 400);
        PlanText x = new PlanText();
        Due.same("400 bytes", Due.tape(x, text), 400);
        Due.noRoom("one more", () -> x.sign(' ', 1));
        Due.same("plans of 400 bytes", x.read(0), 37);
    }

    private static void mayBeEmpty() {
        Due.sentence("ROWS: none of them");
        Rows.kept("");
        Rows.right(" ");
        Rows.right("        ");
        PlanText x = new PlanText();
        Due.same("plans of an empty text", x.read(7), 0);
        Due.same("its edition", x.count(0), 1);
        for (int what = 1; what <= 3; what++) {
            Due.same("its rows", x.count(what), 0);
        }
        PlanText y = new PlanText();
        Due.read(y, "p1k1r0:1a;d2:1a;s[0-23]1:1a;", 0);
        y.read(5);
        Due.same("a plan ahead of the empty edition", y.plan(1, 1, 1, 0, 4), 1);
        Due.same("an empty edition takes the plans away", y.plan(1, 1, 1, 0, 5), -1);
        Due.same("and the defaults", y.plan(2, 1, 1, 0, 5), -1);
        Due.same("and the standby", y.standby(0, 0, 9, 5), 0);
        Due.same("its print", y.print(5), 0);
    }

    private static void endsEachRowWithASemicolon() {
        Due.sentence("ROWS, each ended by a semicolon");
        String[] rows = {"p1k1r0:1a", "d1:1a", "s[0-0]1:1a"};
        for (String row : rows) {
            Rows.kept(row + ";");
            Rows.wrong(row + "!");
            Rows.wrong(row + ";!;");
            Rows.wrong(row + "!.");
            for (String next : new String[] {"p2k1r0:1a;", "d2:1a;", "s[0-0]1:1a;"}) {
                Rows.right(row + ";" + next);
                Rows.wrong(row + "!" + next);
                Rows.wrong(row + " !" + next);
                Rows.wrong(row + ";!;" + next);
                Rows.wrong(row + ";" + next.substring(0, next.length() - 1) + "!");
            }
        }
        Rows.wrong("!;");
        Rows.wrong(" !;");
    }

    private static boolean isDigit(char sign) {
        return sign >= '0' && sign <= '9';
    }

    /** Whether a blank put there would stand within a number. */
    private static boolean isWithinNumber(int at) {
        return at > 0 && at < ALL.length() && isDigit(ALL.charAt(at - 1)) && isDigit(ALL.charAt(at));
    }

    private static void mayHaveBlanksBetweenSigns() {
        Due.sentence("blanks may stand between signs");
        Rows.kept(ALL);
        StringBuilder everywhere = new StringBuilder();
        for (int at = 0; at <= ALL.length(); at++) {
            if (!isWithinNumber(at)) {
                for (String blanks : new String[] {" ", "   "}) {
                    String text = ALL.substring(0, at) + blanks + ALL.substring(at);
                    Rows.right(text);
                    Due.same("print of " + text, Rows.printed(text), ALL);
                }
                everywhere.append("  ");
            }
            everywhere.append(ALL, at, Math.min(at + 1, ALL.length()));
        }
        Rows.right(everywhere.toString());
        Due.same("print with blanks everywhere", Rows.printed(everywhere.toString()), ALL);
        for (int other : new int[] {0, 9, 10, 13, 31, 33, 95, 127, 128, 160, 255}) {
            Rows.wrongAt((char) other + ALL, 0);
            Rows.wrongAt("p1k1r0:1a" + (char) other + ";", 9);
            Rows.wrongAt("p1k1r0:1a;" + (char) other, 10);
        }
    }

    private static void hasNoBlanksWithinNumbers() {
        Due.sentence("blanks .. not within numbers");
        int within = 0;
        for (int at = 0; at <= ALL.length(); at++) {
            if (isWithinNumber(at)) {
                within++;
                Rows.wrongAt(ALL.substring(0, at) + " " + ALL.substring(at), at + 1);
                Rows.wrongAt(ALL.substring(0, at) + "   " + ALL.substring(at), at + 3);
            }
        }
        Due.same("places within numbers", within, 10);
        Rows.wrong("p1 !0k1r0:1a;");
        Rows.wrong("p1k1@5#1-9[0 !0-1]r0:1a;");
    }

    private static void hasNumbersOfOneToThreeDigits() {
        Due.sentence("NUMBERS have one to three digits");
        for (String house : new String[] {"1", "12", "123"}) {
            Rows.kept("p1k1@1#" + house + "-999r0:1a;");
            Rows.kept("p1k1@1#1-" + house + "r0:1a;");
        }
        Rows.wrong("p1k1@1#!-999r0:1a;");
        Rows.wrong("p1k1@1#123!4-999r0:1a;");
        Rows.wrong("p1k1@1#1-!r0:1a;");
        Rows.wrong("p1k1@1#1-123!4r0:1a;");
        Rows.wrong("p1k1@1#1-123!0r0:1a;");
        Rows.wrong("p1k1@1#1-123!456789012345678901234567890r0:1a;");
        String[] none = {"p!k1r0:1a;", "p1k!r0:1a;", "p1k1@!#1-2r0:1a;", "p1k1[!-2]r0:1a;", "p1k1[1-!]r0:1a;",
            "p1k1r!:1a;", "p1k1r0:!a;", "p1k1r0:1a~!;", "d!:1a;", "s[!-2]1:1a;", "s[1-!]1:1a;", "s[1-2]!:1a;", "s[1-2]1:!a;"};
        for (String text : none) {
            Rows.wrong(text);
        }
    }

    private static void hasNumbersWithoutZeroInFront() {
        Due.sentence("without 0 in front of another one");
        Rows.wrong("p!01k1r0:1a;");
        Rows.wrong("p1k!01r0:1a;");
        Rows.wrong("p1k1@!01#1-2r0:1a;");
        Rows.wrong("p1k1@1#!01-2r0:1a;");
        Rows.wrong("p1k1@1#1-!02r0:1a;");
        Rows.wrong("p1k1[0!1-2]r0:1a;");
        Rows.wrong("p1k1[1-0!2]r0:1a;");
        Rows.wrong("p1k1r0!1:1a;");
        Rows.wrong("p1k1r0:!01a;");
        Rows.wrong("p1k1r0:1a~!01;");
        Rows.wrong("d!01:1a;");
        Rows.wrong("s[0!1-2]1:1a;");
        Rows.wrong("s[1-0!2]1:1a;");
        Rows.wrong("s[1-2]!01:1a;");
        Rows.wrong("s[1-2]1:!01a;");
        Rows.kept("p10k1@20#100-200[10-20]r0:1a~30;");
        Rows.kept("p1k1[0-0]r0:1a;");
    }
}
