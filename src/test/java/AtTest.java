/** Promise 13: at. */
public final class AtTest {
    public static void main(String[] args) {
        tellsTheLatestPrint();
        tellsNoneBehindIt();
        tellsNoneWithoutOne();
        refusesBelow0();
        Due.end();
    }

    private static void tellsTheLatestPrint() {
        Due.sentence("Byte i of the latest print");
        PlanText x = new PlanText();
        String text = "p1k1r0:1a;d2:1b;";
        Due.read(x, text, 3);
        x.print(3);
        for (int i = 0; i < text.length(); i++) {
            Due.same("byte " + i, x.at(i), text.charAt(i));
        }
        Due.read(x, "d1:9h;", 3);
        Due.same("a new edition is not printed yet", x.at(0), 'p');
        Due.outside("a print that is refused", () -> x.print(-1));
        Due.same("the latest print stays", x.at(15), ';');
        x.print(3);
        Due.same("the latest print", x.at(0), 'd');
        Due.same("its last byte", x.at(5), ';');
    }

    private static void tellsNoneBehindIt() {
        Due.sentence("-1 behind it");
        PlanText x = new PlanText();
        Due.read(x, "p1k1r0:1a;d2:1b;", 3);
        x.print(3);
        for (int i : new int[] {16, 17, 399, 400, 401, Integer.MAX_VALUE}) {
            Due.same("byte " + i + " of 16", x.at(i), -1);
        }
        Due.read(x, "d1:9h;", 3);
        x.print(3);
        Due.same("behind a shorter print", x.at(6), -1);
        Due.same("where the longer one was", x.at(15), -1);
        x.print(2);
        Due.same("behind an empty print", x.at(0), -1);
    }

    private static void tellsNoneWithoutOne() {
        Due.sentence("(and without one)");
        PlanText x = new PlanText();
        for (int i : new int[] {0, 1, 399, 400, Integer.MAX_VALUE}) {
            Due.same("byte " + i + " without a print", x.at(i), -1);
        }
        Due.read(x, "p1k1r0:1a;", 0);
        Due.same("read alone prints nothing", x.at(0), -1);
        x.plan(1, 1, 1, 1, 0);
        Due.same("nor do questions", x.at(0), -1);
        Due.outside("nor a print that is refused", () -> x.print(10000));
        Due.same("without a print", x.at(0), -1);
    }

    private static void refusesBelow0() {
        Due.sentence("at: Range: i is below 0");
        PlanText x = new PlanText();
        for (int i : new int[] {-1, -2, -400, Integer.MIN_VALUE}) {
            Due.outside("byte " + i + " without a print", () -> x.at(i));
        }
        Due.read(x, "p1k1r0:1a;", 0);
        x.print(0);
        for (int i : new int[] {-1, -2, -400, Integer.MIN_VALUE}) {
            Due.outside("byte " + i, () -> x.at(i));
        }
        Due.same("the least", x.at(0), 'p');
    }
}
