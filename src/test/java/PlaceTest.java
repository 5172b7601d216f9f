/** Promise 4: place, with every rule of where a text is wrong. */
public final class PlaceTest {
    private static final String NEXT = "p1k1r0:1a;";

    public static void main(String[] args) {
        missing();
        planNumbers();
        streetsAndHouses();
        hours();
        ranksAndKinds();
        needs();
        defaults();
        standby();
        rows();
        blanks();
        latest();
        Due.end();
    }

    /** The mark ! stands ahead of the wrong byte, or at the end. */
    private static void wrong(String marked) {
        int due = marked.indexOf('!');
        String text = marked.substring(0, due) + marked.substring(due + 1);
        PlanText x = new PlanText();
        Due.tape(x, text);
        Due.refused("read of " + text, IllegalStateException.class, () -> x.read(0));
        Due.same("place of " + text, x.place(), due);
        Due.same("model's place of " + text, Model.placeOf(text), due);
    }

    private static void right(String text) {
        PlanText x = new PlanText();
        Due.tape(x, text);
        Due.same("read of " + text, x.read(0), text.replaceAll("[^p]", "").length());
        Due.same("place of " + text, x.place(), -1);
        Due.same("model's place of " + text, Model.placeOf(text), -1);
    }

    private static void missing() {
        String text = "p40k9@99#1-999[23-0]r9:9h/a/b~99,1a;";
        right(text);
        for (int end = 1; end < text.length(); end++) {
            wrong(text.substring(0, end) + "!");
        }
        wrong("p1k1r0:1a   !");
        wrong("s!");
        wrong("s[0-0]1:1a!");
        wrong("d!");
        wrong("d1:1a!");
    }

    private static void planNumbers() {
        wrong("p!0k1r0:1a;");
        wrong("p!0");
        wrong("p!01");
        wrong("p!00");
        wrong("p!000");
        wrong("p4!1k1r0:1a;");
        wrong("p41!0k1r0:1a;");
        wrong("p4!1");
        wrong("p99!9");
        wrong("p10!00");
        wrong("p40!1");
        wrong("p1 !0k1r0:1a;");
        wrong("p!k1r0:1a;");
        wrong("p!-1k1r0:1a;");
        wrong("!1k1r0:1a;");
        wrong(NEXT + "p!1k2r1:1b;");
        wrong(NEXT + "p!1");
        right(NEXT + "p11k1r0:1a;");
        wrong("p12k1r0:1a;" + "p1!2k1r0:1a;");
        right("p40k1r0:1a;");
    }

    private static void streetsAndHouses() {
        wrong("p1k1@!0#1-1r0:1a;");
        wrong("p1k1@!09#1-1r0:1a;");
        wrong("p1k1@10!0#1-1r0:1a;");
        wrong("p1k1@99!9");
        wrong("p1k1@10!00#1-1r0:1a;");
        right("p1k1@99#1-1r0:1a;");
        wrong("p1k1@9!r0:1a;");
        wrong("p1k1@9![1-2]r0:1a;");
        wrong("p1k1@9#!0-1r0:1a;");
        wrong("p1k1@9#!01-1r0:1a;");
        wrong("p1k1@9#999!9-1r0:1a;");
        wrong("p1k1@9#100!0-1r0:1a;");
        wrong("p1k1@9#1!r0:1a;");
        wrong("p1k1@9#5-!4r0:1a;");
        wrong("p1k1@9#50-!4r0:1a;");
        wrong("p1k1@9#50-!4");
        wrong("p1k1@9#50-4!9r0:1a;");
        wrong("p1k1@9#500-40!00r0:1a;");
        wrong("p1k1@9#500-500!0r0:1a;");
        wrong("p1k1@9#5-!0r0:1a;");
        wrong("p1k1@9#5-!05r0:1a;");
        wrong("p1k1@9#1-1!-2r0:1a;");
        right("p1k1@9#5-5r0:1a;");
        right("p1k1@9#999-999r0:1a;");
        wrong("p1k1@9#1-2!@9#1-2r0:1a;");
        wrong("p1k1!#1-2r0:1a;");
    }

    private static void hours() {
        right("p1k1[0-0]r0:1a;");
        right("p1k1[23-0]r0:1a;");
        wrong("p1k1[2!4-1]r0:1a;");
        wrong("p1k1[24!0-1]r0:1a;");
        wrong("p1k1[10!00-1]r0:1a;");
        wrong("p1k1[0!5-1]r0:1a;");
        wrong("p1k1[0!0-1]r0:1a;");
        wrong("p1k1[0 !0-1]r0:1a;");
        wrong("p1k1[0-2!4]r0:1a;");
        wrong("p1k1[0-0!1]r0:1a;");
        wrong("p1k1[!-1]r0:1a;");
        wrong("p1k1[1!]r0:1a;");
        wrong("p1k1[1-2!r0:1a;");
        wrong("p1k1[1-2]!@9#1-2r0:1a;");
        wrong("p1k1[1-2]![1-2]r0:1a;");
    }

    private static void ranksAndKinds() {
        right("p1k9r9:1a;");
        wrong("p1k!0r0:1a;");
        wrong("p1k!01r0:1a;");
        wrong("p1k1!0r0:1a;");
        wrong("p1k10!0r0:1a;");
        wrong("p1!r0:1a;");
        wrong("p1k1r1!0:1a;");
        wrong("p1k1r0!0:1a;");
        wrong("p1k1r0!9:1a;");
        wrong("p1k1r!:1a;");
        wrong("p1k1!:1a;");
        wrong("p1k1r0!;");
    }

    private static void needs() {
        right("p1k1r0:9h~99;");
        right("p1k1r0:1a,1a,1a,1a,1a;");
        wrong("p1k1r0:!0a;");
        wrong("p1k1r0:!01a;");
        wrong("p1k1r0:1!0a;");
        wrong("p1k1r0:!a;");
        wrong("p1k1r0:!;");
        wrong("p1k1r0:1!i;");
        wrong("p1k1r0:1!A;");
        wrong("p1k1r0:1!;");
        wrong("p1k1r0:1a!b;");
        wrong("p1k1r0:1a/!a;");
        wrong("p1k1r0:1a/b/!b;");
        wrong("p1k1r0:1a/b/!a;");
        wrong("p1k1r0:1h/b/!h");
        wrong("p1k1r0:1a/b/c!/d;");
        wrong("p1k1r0:1a/!i;");
        wrong("p1k1r0:1a/!1;");
        wrong("p1k1r0:1a~!0;");
        wrong("p1k1r0:1a~!05;");
        wrong("p1k1r0:1a~10!0;");
        wrong("p1k1r0:1a~10!00;");
        wrong("p1k1r0:1a~!;");
        wrong("p1k1r0:1a~5!/b;");
        wrong("p1k1r0:1a~5!~5;");
        wrong("p1k1r0:1a,!;");
        wrong("p1k1r0:1a,1b,1c,1d,1e!,1f;");
        right("p1k1r0:1a/b/c~1,1a/c/b~99,1b/a,1c,1h/g/f;");
    }

    private static void defaults() {
        right("d1:1a;d9:1a/b/c~9,1a,1a,1a,1a;");
        wrong("d!0:1a;");
        wrong("d!01:1a;");
        wrong("d1!0:1a;");
        wrong("d!:1a;");
        wrong("d1!k1:1a;");
        wrong("d1!r1:1a;");
        wrong("d1:1a;d!1:1b;");
        wrong("d1:1a;d1!0:1b;");
        wrong("d1:1a,1b,1c,1d,1e!,1f;");
        wrong("d1:1a;d2:1a;d3:1a;d4:1a;d5:1a;d6:1a;d7:1a;d8:1a;d9:1a;d!5:1a;");
        right("p1k1r0:1a;d1:1a;");
    }

    private static void standby() {
        String row = "s[0-0]1:1a;";
        right(row.repeat(8));
        wrong(row.repeat(8) + "!s[0-0]1:1a;");
        wrong(row.repeat(8) + "!s");
        right(row.repeat(8) + "d1:1a;");
        wrong(row.repeat(7) + "!x");
        wrong("s!1:1a;");
        wrong("s[1-2]!0:1a;");
        wrong("s[1-2]!01:1a;");
        wrong("s[1-2]1!0:1a;");
        wrong("s[1-2]!:1a;");
        wrong("s[2!4-2]1:1a;");
        wrong("s[1-2]1:!0a;");
        wrong("s[1-2]1:1!0a;");
        wrong("s[1-2]1:1!i;");
        wrong("s[1-2]1:1a!/b;");
        wrong("s[1-2]1:1a!~5;");
        wrong("s[1-2]1:1a!,1b;");
        wrong("s[1-2]1!;");
    }

    private static void rows() {
        wrong("!x");
        wrong("!;");
        wrong(NEXT + "!;");
        wrong(NEXT + "!x");
        wrong(NEXT + "  !x");
        wrong("!P1k1r0:1a;");
        wrong("p1k1r0:1a!p2k1r0:1a;");
        wrong("!k1r0:1a;");
        wrong("p!p1k1r0:1a;");
    }

    private static void blanks() {
        right(" p 1 k 1 @ 9 # 1 - 2 [ 1 - 2 ] r 0 : 1 a / b ~ 5 , 2 c ; ");
        right("  d  1  :  1  a  ;  s  [  0  -  0  ]  1  :  1  a  ;  ");
        wrong("p1k1r0:1a~1 !1;");
        wrong("p1k1@1 !1#1-1r0:1a;");
        wrong("p1k1r0:1a!\t;");
        wrong("!\np1k1r0:1a;");
        wrong("p1k1r0:1a!\0;");
        wrong("p1k1[1 !2-1]r0:1a;");
    }

    private static void latest() {
        PlanText x = new PlanText();
        Due.tape(x, "p1x");
        Due.same("not read yet", x.place(), -1);
        Due.refused("wrong", IllegalStateException.class, () -> x.read(0));
        Due.same("wrong", x.place(), 2);
        Due.tape(x, "zz");
        Due.outside("range", () -> x.read(-1));
        Due.same("a range refused tells none", x.place(), 2);
        Due.refused("wrong", IllegalStateException.class, () -> x.read(0));
        Due.same("the latest", x.place(), 0);
        x.read(0);
        Due.same("right again", x.place(), -1);
        Due.read(x, "p1k1r0:1a~99;", 0);
        Due.tape(x, "p1k1r0:1a~9");
        Due.refused("wrong", IllegalStateException.class, () -> x.read(0));
        Due.same("no byte of an earlier text is read", x.place(), 11);
    }
}
