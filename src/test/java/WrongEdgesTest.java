/** Terms: where a text is wrong. */
public final class WrongEdgesTest {
    private static final String PLAN = "p40k9@99#1-999[23-0]r9:9h/a/b~99,1a;";
    private static final String DEFAULT = "d9:9h/a/b~99,1a;";
    private static final String STANDBY = "s[23-0]9:9h;";

    public static void main(String[] args) {
        isWrongWhateverFollows();
        isWrongAtItsLengthWhenSomethingIsMissing();
        isWrongAtTheLastDigitOfANumber();
        isWrongAtTheThirdDigitAtMost();
        isWrongAtAFourthDigit();
        isWrongAtAZeroAheadOfADigit();
        isWrongAtTheDigitBehindAZeroThatMayBe();
        isWrongAtAPlanToldTwice();
        isWrongAtADefaultToldTwice();
        isWrongAtASkillThatIsThere();
        isWrongAtANinthStandbyRow();
        Due.end();
    }

    private static void isWrongWhateverFollows() {
        Due.sentence("A text is WRONG at the first byte with which it can't be right, whatever follows");
        String all = PLAN + DEFAULT + STANDBY;
        String[] tails = {"", "x", ";", " ", "0", "9", "k1r0:1a;", "!!", all};
        for (int at = 0; at < all.length(); at++) {
            String right = all.substring(0, at);
            for (String tail : tails) {
                Rows.wrongAt(right + "x" + tail, at);
                Rows.wrongAt(right + " ?" + tail, at + 1);
            }
        }
        Rows.wrong("p1k1r0:1a;!xp1k1r0:1a;");
        Rows.wrong("p!0k0r0:1a;");
        Rows.wrong("p4!1k99@0;");
        Rows.wrong("p1k1r0:1a/!ai;");
    }

    private static void isWrongAtItsLengthWhenSomethingIsMissing() {
        Due.sentence("(its length when something is missing)");
        for (String row : new String[] {PLAN, DEFAULT, STANDBY, "p1k1r0:1a;", "p1k1[0-0]r0:1a,1a,1a,1a,1a;"}) {
            for (int end = 1; end < row.length(); end++) {
                Rows.wrong(row.substring(0, end) + "!");
                Rows.wrong(row.substring(0, end) + "   !");
                Rows.wrong("p7k7r7:7g;" + row.substring(0, end) + "!");
            }
            Rows.right(row);
        }
    }

    private static void isWrongAtTheLastDigitOfANumber() {
        Due.sentence("numbers that are not so at the last of their digits");
        String[] rows = {"p!0k1r0:1a;", "p4!1k1r0:1a;", "p9!9k1r0:1a;", "p1k!0r0:1a;", "p1k1!0r0:1a;", "p1k9!9r0:1a;",
            "p1k1@!0#1-1r0:1a;", "p1k1@10!0#1-1r0:1a;", "p1k1@1#!0-1r0:1a;", "p1k1@1#2-!1r0:1a;",
            "p1k1@1#20-1!9r0:1a;", "p1k1@1#200-19!9r0:1a;", "p1k1@1#200-2!0r0:1a;", "p1k1@1#200-!2r0:1a;",
            "p1k1[2!4-1]r0:1a;", "p1k1[1-2!4]r0:1a;", "p1k1[9!9-1]r0:1a;", "p1k1r1!0:1a;", "p1k1r9!9:1a;",
            "p1k1r0:!0a;", "p1k1r0:1!0a;", "p1k1r0:1a~!0;", "p1k1r0:1a~10!0;", "d!0:1a;", "d1!0:1a;",
            "s[2!4-1]1:1a;", "s[1-2!4]1:1a;", "s[1-2]!0:1a;", "s[1-2]1!0:1a;", "s[1-2]1:!0a;", "s[1-2]1:1!0a;"};
        for (String row : rows) {
            Rows.wrong(row);
            Rows.wrong("p3k3r3:3c;" + row);
            Rows.wrong(row.replace(";", " ;p3k3r3:3c;"));
            // Also when the text ends right behind the number.
            String number = row.replaceFirst("(!\\d+).*", "$1");
            Rows.wrong(number);
            Rows.wrong(number + "  ");
        }
    }

    private static void isWrongAtTheThirdDigitAtMost() {
        Due.sentence("of three at most (p410 at its 0)");
        String[] rows = {"p41!0k1r0:1a;", "p41!0", "p99!9k1r0:1a;", "p40!0k1r0:1a;", "p10!0k1r0:1a;", "p10!00k1r0:1a;",
            "p41!00k1r0:1a;", "p99!99999k1r0:1a;", "p1k10!0r0:1a;", "p1k12!34r0:1a;", "p1k1@10!00#1-1r0:1a;",
            "p1k1@99!99#1-1r0:1a;", "p1k1@1#500-40!00r0:1a;", "p1k1@1#500-49!99r0:1a;", "p1k1[24!0-1]r0:1a;",
            "p1k1[10!00-1]r0:1a;", "p1k1[1-24!0]r0:1a;", "p1k1[1-10!00]r0:1a;", "p1k1r10!0:1a;", "p1k1r99!99:1a;",
            "p1k1r0:10!0a;", "p1k1r0:99!99a;", "p1k1r0:1a~10!00;", "p1k1r0:1a~99!99;", "d10!0:1a;", "d99!99:1a;",
            "s[24!0-1]1:1a;", "s[1-10!00]1:1a;", "s[1-2]10!0:1a;", "s[1-2]99!99:1a;", "s[1-2]1:10!0a;", "s[1-2]1:99!99a;"};
        for (String row : rows) {
            Rows.wrong(row);
            Rows.wrong("p3k3r3:3c;" + row);
        }
    }

    private static void isWrongAtAFourthDigit() {
        Due.sentence("a fourth one at itself");
        Rows.wrong("p1k1@1#100!0-1r0:1a;");
        Rows.wrong("p1k1@1#999!9-1r0:1a;");
        Rows.wrong("p1k1@1#999!9");
        Rows.wrong("p1k1@1#123!45-1r0:1a;");
        Rows.wrong("p1k1@1#1-100!0r0:1a;");
        Rows.wrong("p1k1@1#1-999!9r0:1a;");
        Rows.wrong("p1k1@1#1-123!45r0:1a;");
        Rows.wrong("p1k1@1#500-500!0r0:1a;");
        Rows.wrong("p1k1@1#999-999!0r0:1a;");
    }

    private static void isWrongAtAZeroAheadOfADigit() {
        Due.sentence("a 0 ahead of a digit at itself where 0 may not be");
        String[] rows = {"p!#k1r0:1a;", "p1k!#r0:1a;", "p1k1@!#X1-1r0:1a;", "p1k1@1X!#-1r0:1a;", "p1k1@1X1-!#r0:1a;",
            "p1k1@1X50-!#r0:1a;", "p1k1r0:!#a;", "p1k1r0:1a,!#a;", "p1k1r0:1a~!#;", "d!#:1a;", "s[1-2]!#:1a;", "s[1-2]1:!#a;"};
        for (String row : rows) {
            for (String number : new String[] {"01", "00", "09", "010", "000", "0123", "0000"}) {
                Rows.wrong(row.replace("#", number).replace('X', '#'));
            }
        }
    }

    private static void isWrongAtTheDigitBehindAZeroThatMayBe() {
        Due.sentence("else at that digit");
        String[] rows = {"p1k1[#-1]r0:1a;", "p1k1[1-#]r0:1a;", "p1k1r#:1a;", "s[#-1]1:1a;", "s[1-#]1:1a;"};
        for (String row : rows) {
            Rows.kept(row.replace("#", "0"));
            for (String number : new String[] {"0!1", "0!0", "0!9", "0!10", "0!00", "0!123", "0!000"}) {
                Rows.wrong(row.replace("#", number));
            }
        }
    }

    private static void isWrongAtAPlanToldTwice() {
        Due.sentence("a plan .. told twice in a text at the last byte of the number");
        Rows.wrong("p1k1r0:1a;p!1k1r0:1a;");
        Rows.wrong("p1k1r0:1a;p!1");
        Rows.wrong("p1k1r0:1a;p!1   ");
        Rows.wrong("p10k1r0:1a;p1!0");
        Rows.wrong("p1k1r0:1a;p!1k0r0:1a;");
        Rows.wrong("p9k1r0:1a;p2k2r0:1a;p!9k2@3#4-5r9:2b;");
        Rows.wrong("p10k1r0:1a;p1!0k1r0:1a;");
        Rows.wrong("p40k1r0:1a;p4!0k1r0:1a;");
        Rows.wrong("p40k1r0:1a;d4:1a; p 4!0 k1r0:1a;");
        Rows.wrong("p4k1r0:1a;p4!1k1r0:1a;");
        Rows.wrong("p4k1r0:1a;p40!0k1r0:1a;");
        Rows.kept("p1k1r0:1a;p10k1r0:1a;p11k1r0:1a;");
        Rows.right("p11k1r0:1a;p1k1r0:1a;");
        PlanText x = new PlanText();
        Due.read(x, "p1k1r0:1a;", 0);
        Due.same("the number again in another text", Due.read(x, "p1k1r0:1a;", 0), 1);
    }

    private static void isWrongAtADefaultToldTwice() {
        Due.sentence("a default told twice in a text at the last byte of the number");
        Rows.wrong("d1:1a;d!1:1a;");
        Rows.wrong("d1:1a;d!1");
        Rows.wrong("d1:1a;d!1   ");
        Rows.wrong("d9:1a;d1:1a;d!9:2b;");
        Rows.wrong("d9:1a;p9k9r0:1a; d !9 :2b;");
        Rows.wrong("d1:1a;d1!0:1a;");
        Rows.right("p1k1r0:1a;d1:1a;p2k1r0:1a;d2:1a;");
        PlanText x = new PlanText();
        Due.read(x, "d1:1a;", 0);
        Due.same("the kind again in another text", Due.read(x, "d1:1a;", 0), 0);
    }

    private static void isWrongAtASkillThatIsThere() {
        Due.sentence("a skill that is there already at itself");
        for (String row : new String[] {"p1k1r0:", "d1:", "p1k1r0:1a,", "d1:1h/g,"}) {
            Rows.wrong(row + "1a/!a;");
            Rows.wrong(row + "1a/b/!a;");
            Rows.wrong(row + "1a/b/!b;");
            Rows.wrong(row + "1h/!h");
            Rows.wrong(row + "1h / g / !g ~5;");
        }
    }

    private static void isWrongAtANinthStandbyRow() {
        Due.sentence("a ninth standby row at its s");
        String eight = STANDBY.repeat(8);
        Rows.wrong(eight + "!s");
        Rows.wrong(eight + "  !s");
        Rows.wrong(eight + "!s[");
        Rows.wrong(eight + "!s[0-0]1:1a;");
        Rows.wrong(eight + "!sx");
        Rows.wrong(STANDBY.repeat(7) + "s!x");
        Rows.wrong(STANDBY.repeat(7) + "s!");
        Rows.wrong(eight + "p1k1r0:1a;!s[0-0]1:1a;");
        Rows.right(eight + "p1k1r0:1a;");
    }
}
