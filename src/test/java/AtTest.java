/** Promise 13: at. */
public final class AtTest {
    public static void main(String[] args) {
        PlanText x = new PlanText();
        Due.same("without a print", x.at(0), -1);
        Due.outside("below 0 without a print", () -> x.at(-1));
        String text = "p1k1r0:1a;d2:1b;";
        Due.read(x, text, 3);
        Due.same("read alone prints nothing", x.at(0), -1);
        x.print(3);
        for (int i = 0; i < text.length(); i++) {
            Due.same("byte " + i, x.at(i), text.charAt(i));
        }
        Due.same("right behind", x.at(text.length()), -1);
        Due.same("at 399", x.at(399), -1);
        Due.same("at 400", x.at(400), -1);
        Due.same("far behind", x.at(Integer.MAX_VALUE), -1);
        Due.outside("below 0", () -> x.at(-1));
        Due.outside("the least", () -> x.at(Integer.MIN_VALUE));
        Due.read(x, "d1:9h;", 3);
        Due.same("the latest print stays", x.at(0), 'p');
        x.print(3);
        Due.same("the latest print", x.at(0), 'd');
        Due.same("behind the latest print", x.at(6), -1);
        x.print(2);
        Due.same("an empty print", x.at(0), -1);
        Due.end();
    }
}
