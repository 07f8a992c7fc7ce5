/** Questions that are run both ways, and errors of texts. */
final class Values {
    private Values() {
    }

    /** Runs a question over the logs of some hours both ways, twice: one run leaves nothing behind. */
    static void both(Desk desk, String question, int from, int to, long want) {
        desk.write(question);
        String what = question + " " + from + " " + to;
        Check.due("ask " + what, want, desk.ask(from, to));
        Check.due("askByCodes " + what, want, desk.askByCodes(from, to));
        Check.due("ask once more " + what, want, desk.ask(from, to));
        Check.due("askByCodes once more " + what, want, desk.askByCodes(from, to));
    }

    /** The value of a question that has no need of logs. */
    static void value(String question, long want) {
        both(new Desk(), question, 0, 0, want);
    }

    static void question(String text) {
        error(text, -1);
    }

    static void error(String text, int want) {
        Check.due("errorAt of " + text, want, new Desk().write(text).errorAt());
    }

    /** Texts with a hole, filled with each sign that can be typed; where the error is for each. */
    static void eachSign(String ahead, String behind, int errorOfOthers, Object... signsAndErrors) {
        for (char sign = 32; sign <= 126; sign++) {
            int want = errorOfOthers;
            for (int i = 0; i < signsAndErrors.length; i += 2) {
                if (((String) signsAndErrors[i]).indexOf(sign) >= 0) {
                    want = (Integer) signsAndErrors[i + 1];
                }
            }
            error(ahead + sign + behind, want);
        }
    }
}
