/** Counts the answers that are not as due; a test ends by end(). */
final class Check {
    private final String test;
    private int asked = 0;
    private int wrong = 0;

    Check(String test) {
        this.test = test;
    }

    void due(String call, long got, long want) {
        asked++;
        if (got != want) {
            wrong++;
            System.out.println(test + ": " + call + " answered " + got + ", due is " + want);
        }
    }

    int asked() {
        return asked;
    }

    void due(String what, boolean is) {
        due(what, is ? 1 : 0, 1);
    }

    void end() {
        System.out.println(test + ": " + asked + " answers, " + wrong + " of them not as due");
        if (wrong > 0 || asked == 0) {
            System.exit(1);
        }
    }

    /** Feeds a text, sign by sign: the last answer. */
    static int feed(LidsAndCombs x, String text) {
        int answer = 0;
        for (int k = 0; k < text.length(); k++) {
            answer = x.feed(text.charAt(k));
        }
        return answer;
    }

    /** Feeds a text and makes a kitchen of it. */
    static int kitchen(LidsAndCombs x, String text) {
        feed(x, text);
        return x.kitchen();
    }
}
