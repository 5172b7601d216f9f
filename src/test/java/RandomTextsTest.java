/** Promises 3, 4 and 12 on many made-up texts, right and wrong, against the model. */
public final class RandomTextsTest {
    public static void main(String[] args) {
        Texts texts = new Texts(20261115);
        int right = 0;
        for (int i = 0; i < 6000; i++) {
            String text = texts.once(8) ? texts.right() : texts.bent();
            right += due(text) ? 1 : 0;
        }
        Due.same("both right and wrong texts", right > 500 && right < 5500 ? 1 : 0, 1);
        Due.end();
    }

    private static boolean due(String text) {
        PlanText x = new PlanText();
        Model model = new Model();
        Due.tape(x, text);
        for (int i = 0; i < text.length(); i++) {
            model.sign(text.charAt(i), 1);
        }
        Due.same("read of " + text, Due.outcome(() -> x.read(0)), Due.outcome(() -> model.read(0)));
        Due.same("place of " + text, x.place(), model.place());
        Due.same("print of " + text, x.print(0), model.print(0));
        for (int i = 0; i <= text.length() && i < 400; i++) {
            Due.same("byte " + i + " of the print of " + text, x.at(i), model.at(i));
        }
        return x.place() == -1;
    }
}
