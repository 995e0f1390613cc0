/** What the tests share: counting wrong answers, and texts in and out of a TreeStream. */
final class Check {
    /** Arguments that no call of the document takes as they are, but NONE. */
    static final int[] STRANGE = {Integer.MIN_VALUE, Integer.MIN_VALUE + 1, -1000, -2, 4096, 1 << 20, 1 << 30, Integer.MAX_VALUE};

    private int asked = 0;
    private int wrong = 0;
    private int sentences = 0;
    private int askedBefore = 0;
    private String sentence = "";

    /** The answers behind this call are about these words of the document. */
    void sentence(String words) {
        closeSentence();
        sentences++;
        sentence = words + " | ";
    }

    private void closeSentence() {
        if (sentences > 0 && asked == askedBefore) {
            count(sentence + "no answer was asked for");
        }
        askedBefore = asked;
    }

    void due(String what, long got, long want) {
        asked++;
        if (got != want) {
            count(sentence + what + " answered " + got + ", due is " + want);
        }
    }

    void due(String what, String got, String want) {
        asked++;
        if (!got.equals(want)) {
            count(sentence + what + " answered " + got + ", due is " + want);
        }
    }

    void due(String what, boolean got, boolean want) {
        due(what, got ? 1 : 0, want ? 1 : 0);
    }

    private void count(String line) {
        wrong++;
        if (wrong <= 40) {
            System.out.println(line);
        }
    }

    void ends() {
        closeSentence();
        String about = sentences == 0 ? "" : " about " + sentences + " sentences";
        System.out.println(asked + " answers" + about + ", " + wrong + " of them not as due");
        if (wrong != 0 || asked == 0) {
            System.exit(1);
        }
    }

    /** A new object with these MACHINES, from 0 on. */
    TreeStream with(String... texts) {
        TreeStream x = new TreeStream();
        for (int k = 0; k < texts.length; k++) {
            due("machine " + texts[k], tell(x, k, texts[k]) >= 0, true);
        }
        return x;
    }

    /** The EVENTS come one after another, told as 0, 1, 2, 3: which answers they get. */
    void steps(TreeStream x, String events, int... want) {
        for (int i = 0; i < events.length(); i++) {
            due("next, " + i + " of " + events, x.next(events.charAt(i) - '0'), want[i]);
        }
    }

    /** Puts a text on the TAPE, which must be empty, at most 600 bytes. */
    static void feed(TreeStream x, String text) {
        for (int i = 0; i < text.length(); i += 20) {
            feedTwenty(x, (text + " ".repeat(20)).substring(i, i + 20));
        }
        x.end(text.length());
    }

    static int feedTwenty(TreeStream x, String text) {
        return x.feed(number(text, 0), number(text, 4), number(text, 8), number(text, 12), number(text, 16));
    }

    private static int number(String text, int i) {
        return text.charAt(i) << 24 | text.charAt(i + 1) << 16 | text.charAt(i + 2) << 8 | text.charAt(i + 3);
    }

    static int tell(TreeStream x, int k, String text) {
        feed(x, text);
        return x.machine(k);
    }

    static int give(TreeStream x, String text) {
        feed(x, text);
        return x.document();
    }

    /** The FAULT of a machine's text: 0 without one. */
    static int machineFault(TreeStream x, String text) {
        tell(x, 0, text);
        return x.fault();
    }

    static int documentFault(TreeStream x, String text) {
        give(x, text);
        return x.fault();
    }

    /** THE DOCUMENT or OUT as a text. */
    static String shown(TreeStream x, boolean out) {
        StringBuilder text = new StringBuilder();
        int sign = x.event(0, out);
        for (int i = 1; sign != TreeStream.NONE; i++) {
            text.append(shownSign(sign));
            sign = x.event(i, out);
        }
        return text.toString();
    }

    /** What a REGISTER of the READING holds, as a text. */
    static String shownHeld(TreeStream x, int d, int register) {
        StringBuilder text = new StringBuilder();
        int many = x.held(d, register, TreeStream.NONE);
        for (int i = 0; i < many; i++) {
            text.append(shownSign(x.held(d, register, i)));
        }
        return text.toString();
    }

    private static String shownSign(int sign) {
        return sign == 3 ? ">" : sign >= 0 && sign < 3 ? "<" + "abc".charAt(sign) : "?";
    }

    /** So many ELEMENTS, each within the one ahead. */
    static String nested(String letter, int times) {
        return ("<" + letter).repeat(times) + ">".repeat(times);
    }
}
