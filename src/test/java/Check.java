/** What the tests share: objects made from a text, and answers held against those that are due. */
final class Check {
    private static int right = 0;
    private static int wrong = 0;
    private static String sentence = "";
    private static int rightBefore = 0;

    private Check() {
    }

    static HandCensus row(String text) {
        HandCensus census = new HandCensus();
        type(census, text);
        return census;
    }

    static void type(HandCensus census, String text) {
        for (int i = 0; i < text.length(); i++) {
            census.type(text.charAt(i));
        }
    }

    /** What comes now tests this sentence of the document; a sentence without a single answer as due is told as wrong. */
    static void of(String words) {
        endSentence();
        sentence = words;
        rightBefore = right;
    }

    private static void endSentence() {
        if (!sentence.isEmpty() && right == rightBefore) {
            wrong++;
            System.out.println("nothing stands for: " + sentence);
        }
        sentence = "";
    }

    private static String told(String call) {
        return sentence.isEmpty() ? call : "[" + sentence + "] " + call;
    }

    static void due(String call, long got, long want) {
        if (got == want) {
            right++;
        } else {
            wrong++;
            System.out.println(told(call) + " answered " + got + ", due is " + want);
        }
    }

    static void holds(String what, boolean so) {
        if (so) {
            right++;
        } else {
            wrong++;
            System.out.println("it is not so: " + told(what));
        }
    }

    static void end() {
        endSentence();
        System.out.println(right + " answers as due, " + wrong + " not");
        if (wrong != 0 || right == 0) {
            System.exit(1);
        }
    }
}
