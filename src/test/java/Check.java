/** What the tests share: objects made from a text, and answers held against those that are due. */
final class Check {
    private static int right = 0;
    private static int wrong = 0;

    private Check() {
    }

    static HandCensus row(String text) {
        HandCensus census = new HandCensus();
        type(census, text);
        return census;
    }

    static void type(HandCensus census, String text) {
        for (int i = 0; i < text.length(); i++) {
            census.type(text.charAt(i));
        }
    }

    static void due(String call, long got, long want) {
        if (got == want) {
            right++;
        } else {
            wrong++;
            System.out.println(call + " answered " + got + ", due is " + want);
        }
    }

    static void holds(String what, boolean so) {
        if (so) {
            right++;
        } else {
            wrong++;
            System.out.println("it is not so: " + what);
        }
    }

    static void end() {
        System.out.println(right + " answers as due, " + wrong + " not");
        if (wrong != 0 || right == 0) {
            System.exit(1);
        }
    }
}
