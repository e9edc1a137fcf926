/** What the tests share: the sentence that is tested, and the tally of wrong answers. */
final class Check {
    private static int right = 0;
    private static int wrong = 0;
    private static String sentence = "";

    private Check() {
    }

    /** The document's words that the checks from here on are about; a wrong answer is told with them. */
    static void sentence(String words) {
        sentence = words;
    }

    static void same(String what, long got, long due) {
        tally(got == due, what + " answered " + got + ", due is " + due);
    }

    static void same(String what, String got, String due) {
        tally(got.equals(due), what + " gave [" + shown(got) + "], due is [" + shown(due) + "]");
    }

    private static void tally(boolean isRight, String told) {
        if (isRight) {
            right++;
            return;
        }
        wrong++;
        System.out.println(told + (sentence.isEmpty() ? "" : "\n    the document: \"" + sentence + "\""));
    }

    static void end() {
        System.out.println(right + " answers are as due, " + wrong + " are not");
        if (wrong != 0) {
            System.exit(1);
        }
    }

    static int wrong() {
        return wrong;
    }

    private static String shown(String text) {
        return text.replace("\n", "\\n").replace("\b", "\\b");
    }
}
