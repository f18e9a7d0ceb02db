/** Counts the answers that are not as due, and ends a test with 1 if there were any. */
final class Due {
    private int wrong;
    private int asked;
    /** The sentence of the document that asks for the answers from here on; empty: none is named. */
    private String sentence = "";

    void by(String newSentence) {
        sentence = newSentence;
    }

    void is(String call, long got, long want) {
        asked++;
        if (got != want) {
            wrong++;
            if (wrong <= 40) {
                System.out.println(call + " answered " + got + ", due is " + want + sentence);
            }
        }
    }

    boolean isAllWell() {
        return wrong == 0;
    }

    void end() {
        System.out.println(asked + " answers, " + wrong + " not as due");
        if (wrong != 0) {
            System.exit(1);
        }
    }

    /** A new object whose strait was read from a text. */
    static ClashRocks strait(String text) {
        ClashRocks x = new ClashRocks();
        read(x, text);
        return x;
    }

    static int read(ClashRocks x, String text) {
        write(x, text);
        return x.strait();
    }

    static void write(ClashRocks x, String text) {
        for (int i = 0; i < text.length(); i++) {
            x.type(text.charAt(i));
        }
    }
}
