/** Promise 4: place, with every rule of where a text is wrong. */
public final class PlaceTest {
    private static final String NEXT = "p1k1r0:1a;";

    public static void main(String[] args) {
        Due.sentence("Where the latest text was wrong");
        missing();
        planNumbers();
        streetsAndHouses();
        hours();
        ranksAndKinds();
        needs();
        defaults();
        standby();
        rows();
        blanks();
        latest();
        rightOrNone();
        Due.end();
    }

    private static void missing() {
        String text = "p40k9@99#1-999[23-0]r9:9h/a/b~99,1a;";
        Rows.right(text);
        for (int end = 1; end < text.length(); end++) {
            Rows.wrong(text.substring(0, end) + "!");
        }
        Rows.wrong("p1k1r0:1a   !");
        Rows.wrong("s!");
        Rows.wrong("s[0-0]1:1a!");
        Rows.wrong("d!");
        Rows.wrong("d1:1a!");
    }

    private static void planNumbers() {
        Rows.wrong("p!0k1r0:1a;");
        Rows.wrong("p!0");
        Rows.wrong("p!01");
        Rows.wrong("p!00");
        Rows.wrong("p!000");
        Rows.wrong("p4!1k1r0:1a;");
        Rows.wrong("p41!0k1r0:1a;");
        Rows.wrong("p4!1");
        Rows.wrong("p99!9");
        Rows.wrong("p10!00");
        Rows.wrong("p40!1");
        Rows.wrong("p1 !0k1r0:1a;");
        Rows.wrong("p!k1r0:1a;");
        Rows.wrong("p!-1k1r0:1a;");
        Rows.wrong("!1k1r0:1a;");
        Rows.wrong(NEXT + "p!1k2r1:1b;");
        Rows.wrong(NEXT + "p!1");
        Rows.right(NEXT + "p11k1r0:1a;");
        Rows.wrong("p12k1r0:1a;" + "p1!2k1r0:1a;");
        Rows.right("p40k1r0:1a;");
    }

    private static void streetsAndHouses() {
        Rows.wrong("p1k1@!0#1-1r0:1a;");
        Rows.wrong("p1k1@!09#1-1r0:1a;");
        Rows.wrong("p1k1@10!0#1-1r0:1a;");
        Rows.wrong("p1k1@99!9");
        Rows.wrong("p1k1@10!00#1-1r0:1a;");
        Rows.right("p1k1@99#1-1r0:1a;");
        Rows.wrong("p1k1@9!r0:1a;");
        Rows.wrong("p1k1@9![1-2]r0:1a;");
        Rows.wrong("p1k1@9#!0-1r0:1a;");
        Rows.wrong("p1k1@9#!01-1r0:1a;");
        Rows.wrong("p1k1@9#999!9-1r0:1a;");
        Rows.wrong("p1k1@9#100!0-1r0:1a;");
        Rows.wrong("p1k1@9#1!r0:1a;");
        Rows.wrong("p1k1@9#5-!4r0:1a;");
        Rows.wrong("p1k1@9#50-!4r0:1a;");
        Rows.wrong("p1k1@9#50-!4");
        Rows.wrong("p1k1@9#50-4!9r0:1a;");
        Rows.wrong("p1k1@9#500-40!00r0:1a;");
        Rows.wrong("p1k1@9#500-500!0r0:1a;");
        Rows.wrong("p1k1@9#5-!0r0:1a;");
        Rows.wrong("p1k1@9#5-!05r0:1a;");
        Rows.wrong("p1k1@9#1-1!-2r0:1a;");
        Rows.right("p1k1@9#5-5r0:1a;");
        Rows.right("p1k1@9#999-999r0:1a;");
        Rows.wrong("p1k1@9#1-2!@9#1-2r0:1a;");
        Rows.wrong("p1k1!#1-2r0:1a;");
    }

    private static void hours() {
        Rows.right("p1k1[0-0]r0:1a;");
        Rows.right("p1k1[23-0]r0:1a;");
        Rows.wrong("p1k1[2!4-1]r0:1a;");
        Rows.wrong("p1k1[24!0-1]r0:1a;");
        Rows.wrong("p1k1[10!00-1]r0:1a;");
        Rows.wrong("p1k1[0!5-1]r0:1a;");
        Rows.wrong("p1k1[0!0-1]r0:1a;");
        Rows.wrong("p1k1[0 !0-1]r0:1a;");
        Rows.wrong("p1k1[0-2!4]r0:1a;");
        Rows.wrong("p1k1[0-0!1]r0:1a;");
        Rows.wrong("p1k1[!-1]r0:1a;");
        Rows.wrong("p1k1[1!]r0:1a;");
        Rows.wrong("p1k1[1-2!r0:1a;");
        Rows.wrong("p1k1[1-2]!@9#1-2r0:1a;");
        Rows.wrong("p1k1[1-2]![1-2]r0:1a;");
    }

    private static void ranksAndKinds() {
        Rows.right("p1k9r9:1a;");
        Rows.wrong("p1k!0r0:1a;");
        Rows.wrong("p1k!01r0:1a;");
        Rows.wrong("p1k1!0r0:1a;");
        Rows.wrong("p1k10!0r0:1a;");
        Rows.wrong("p1!r0:1a;");
        Rows.wrong("p1k1r1!0:1a;");
        Rows.wrong("p1k1r0!0:1a;");
        Rows.wrong("p1k1r0!9:1a;");
        Rows.wrong("p1k1r!:1a;");
        Rows.wrong("p1k1!:1a;");
        Rows.wrong("p1k1r0!;");
    }

    private static void needs() {
        Rows.right("p1k1r0:9h~99;");
        Rows.right("p1k1r0:1a,1a,1a,1a,1a;");
        Rows.wrong("p1k1r0:!0a;");
        Rows.wrong("p1k1r0:!01a;");
        Rows.wrong("p1k1r0:1!0a;");
        Rows.wrong("p1k1r0:!a;");
        Rows.wrong("p1k1r0:!;");
        Rows.wrong("p1k1r0:1!i;");
        Rows.wrong("p1k1r0:1!A;");
        Rows.wrong("p1k1r0:1!;");
        Rows.wrong("p1k1r0:1a!b;");
        Rows.wrong("p1k1r0:1a/!a;");
        Rows.wrong("p1k1r0:1a/b/!b;");
        Rows.wrong("p1k1r0:1a/b/!a;");
        Rows.wrong("p1k1r0:1h/b/!h");
        Rows.wrong("p1k1r0:1a/b/c!/d;");
        Rows.wrong("p1k1r0:1a/!i;");
        Rows.wrong("p1k1r0:1a/!1;");
        Rows.wrong("p1k1r0:1a~!0;");
        Rows.wrong("p1k1r0:1a~!05;");
        Rows.wrong("p1k1r0:1a~10!0;");
        Rows.wrong("p1k1r0:1a~10!00;");
        Rows.wrong("p1k1r0:1a~!;");
        Rows.wrong("p1k1r0:1a~5!/b;");
        Rows.wrong("p1k1r0:1a~5!~5;");
        Rows.wrong("p1k1r0:1a,!;");
        Rows.wrong("p1k1r0:1a,1b,1c,1d,1e!,1f;");
        Rows.right("p1k1r0:1a/b/c~1,1a/c/b~99,1b/a,1c,1h/g/f;");
    }

    private static void defaults() {
        Rows.right("d1:1a;d9:1a/b/c~9,1a,1a,1a,1a;");
        Rows.wrong("d!0:1a;");
        Rows.wrong("d!01:1a;");
        Rows.wrong("d1!0:1a;");
        Rows.wrong("d!:1a;");
        Rows.wrong("d1!k1:1a;");
        Rows.wrong("d1!r1:1a;");
        Rows.wrong("d1:1a;d!1:1b;");
        Rows.wrong("d1:1a;d1!0:1b;");
        Rows.wrong("d1:1a,1b,1c,1d,1e!,1f;");
        Rows.wrong("d1:1a;d2:1a;d3:1a;d4:1a;d5:1a;d6:1a;d7:1a;d8:1a;d9:1a;d!5:1a;");
        Rows.right("p1k1r0:1a;d1:1a;");
    }

    private static void standby() {
        String row = "s[0-0]1:1a;";
        Rows.right(row.repeat(8));
        Rows.wrong(row.repeat(8) + "!s[0-0]1:1a;");
        Rows.wrong(row.repeat(8) + "!s");
        Rows.right(row.repeat(8) + "d1:1a;");
        Rows.wrong(row.repeat(7) + "!x");
        Rows.wrong("s!1:1a;");
        Rows.wrong("s[1-2]!0:1a;");
        Rows.wrong("s[1-2]!01:1a;");
        Rows.wrong("s[1-2]1!0:1a;");
        Rows.wrong("s[1-2]!:1a;");
        Rows.wrong("s[2!4-2]1:1a;");
        Rows.wrong("s[1-2]1:!0a;");
        Rows.wrong("s[1-2]1:1!0a;");
        Rows.wrong("s[1-2]1:1!i;");
        Rows.wrong("s[1-2]1:1a!/b;");
        Rows.wrong("s[1-2]1:1a!~5;");
        Rows.wrong("s[1-2]1:1a!,1b;");
        Rows.wrong("s[1-2]1!;");
    }

    private static void rows() {
        Rows.wrong("!x");
        Rows.wrong("!;");
        Rows.wrong(NEXT + "!;");
        Rows.wrong(NEXT + "!x");
        Rows.wrong(NEXT + "  !x");
        Rows.wrong("!P1k1r0:1a;");
        Rows.wrong("p1k1r0:1a!p2k1r0:1a;");
        Rows.wrong("!k1r0:1a;");
        Rows.wrong("p!p1k1r0:1a;");
    }

    private static void blanks() {
        Rows.right(" p 1 k 1 @ 9 # 1 - 2 [ 1 - 2 ] r 0 : 1 a / b ~ 5 , 2 c ; ");
        Rows.right("  d  1  :  1  a  ;  s  [  0  -  0  ]  1  :  1  a  ;  ");
        Rows.wrong("p1k1r0:1a~1 !1;");
        Rows.wrong("p1k1@1 !1#1-1r0:1a;");
        Rows.wrong("p1k1r0:1a!\t;");
        Rows.wrong("!\np1k1r0:1a;");
        Rows.wrong("p1k1r0:1a!\0;");
        Rows.wrong("p1k1[1 !2-1]r0:1a;");
    }

    private static void latest() {
        Due.sentence("Where the latest text was wrong");
        PlanText x = new PlanText();
        Due.tape(x, "p1x");
        Due.same("not read yet", x.place(), -1);
        Due.notNow("wrong", () -> x.read(0));
        Due.same("wrong", x.place(), 2);
        Due.same("asked again", x.place(), 2);
        Due.tape(x, "zz");
        Due.same("the next is not read yet", x.place(), 2);
        Due.outside("range", () -> x.read(-1));
        Due.same("a range refused tells none", x.place(), 2);
        Due.notNow("wrong", () -> x.read(0));
        Due.same("the least place", x.place(), 0);
        Due.tape(x, " ".repeat(399) + "p");
        Due.notNow("wrong", () -> x.read(0));
        Due.same("the greatest place", x.place(), 400);
        Due.tape(x, " ".repeat(399) + "x");
        Due.notNow("wrong", () -> x.read(0));
        Due.same("the last byte", x.place(), 399);
        Due.read(x, "p1k1r0:1a~99;", 0);
        Due.tape(x, "p1k1r0:1a~9");
        Due.notNow("wrong", () -> x.read(0));
        Due.same("no byte of an earlier text is read", x.place(), 11);
    }

    private static void rightOrNone() {
        Due.sentence("-1 when it was right, or there was none");
        PlanText x = new PlanText();
        Due.same("there was none", x.place(), -1);
        Due.outside("no text is read", () -> x.read(10000));
        Due.same("there was none", x.place(), -1);
        Due.tape(x, "x");
        Due.notNow("wrong", () -> x.read(0));
        Due.same("wrong", x.place(), 0);
        x.read(0);
        Due.same("an empty one is right", x.place(), -1);
        Due.tape(x, "x");
        Due.notNow("wrong", () -> x.read(0));
        Due.read(x, "p1k1r0:1a;", 0);
        Due.same("a right one behind a wrong one", x.place(), -1);
    }
}
