/** All that can be asked of an object without changing it, as one text. */
final class State {
    private State() {
    }

    static String of(PixelFormula formula) {
        StringBuilder text = new StringBuilder();
        text.append("length ").append(formula.type(0));
        text.append(" code ").append(formula.size() == 0 ? "none" : Check.code(formula));
        text.append(" types ").append(types(formula));
        text.append(" picture ").append(Check.picture(formula));
        return text.toString();
    }

    /** The types of the variables a .. z, a digit each. */
    static String types(PixelFormula formula) {
        StringBuilder text = new StringBuilder();
        for (int letter = 0; letter < 26; letter++) {
            text.append(formula.typeOf(letter));
        }
        return text.toString();
    }
}
