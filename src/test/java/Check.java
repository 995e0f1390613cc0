/** What the tests share: counting wrong answers, and texts in and out of a TreeStream. */
final class Check {
    private int asked = 0;
    private int wrong = 0;

    void due(String what, long got, long want) {
        asked++;
        if (got != want) {
            wrong++;
            if (wrong <= 40) {
                System.out.println(what + " answered " + got + ", due is " + want);
            }
        }
    }

    void due(String what, String got, String want) {
        asked++;
        if (!got.equals(want)) {
            wrong++;
            if (wrong <= 40) {
                System.out.println(what + " answered " + got + ", due is " + want);
            }
        }
    }

    void ends() {
        System.out.println(asked + " answers, " + wrong + " of them not as due");
        if (wrong != 0 || asked == 0) {
            System.exit(1);
        }
    }

    /** Puts a text on the TAPE, which must be empty, at most 600 bytes. */
    static void feed(TreeStream x, String text) {
        byte[] bytes = new byte[(text.length() + 19) / 20 * 20];
        for (int i = 0; i < bytes.length; i++) {
            bytes[i] = (byte) (i < text.length() ? text.charAt(i) : ' ');
        }
        for (int i = 0; i < bytes.length; i += 20) {
            x.feed(number(bytes, i), number(bytes, i + 4), number(bytes, i + 8), number(bytes, i + 12), number(bytes, i + 16));
        }
        x.end(text.length());
    }

    private static int number(byte[] bytes, int i) {
        return (bytes[i] & 255) << 24 | (bytes[i + 1] & 255) << 16 | (bytes[i + 2] & 255) << 8 | (bytes[i + 3] & 255);
    }

    static int tell(TreeStream x, int k, String text) {
        feed(x, text);
        return x.machine(k);
    }

    static int give(TreeStream x, String text) {
        feed(x, text);
        return x.document();
    }

    /** The FAULT of a machine's text: 0 without one. */
    static int machineFault(TreeStream x, String text) {
        tell(x, 0, text);
        return x.fault();
    }

    static int documentFault(TreeStream x, String text) {
        give(x, text);
        return x.fault();
    }

    /** THE DOCUMENT or OUT as a text. */
    static String shown(TreeStream x, boolean out) {
        StringBuilder text = new StringBuilder();
        for (int i = 0; x.event(i, out) != TreeStream.NONE; i++) {
            int sign = x.event(i, out);
            text.append(sign == 3 ? ">" : "<" + "abc".charAt(sign));
        }
        return text.toString();
    }

    /** What a REGISTER of the READING holds, as a text. */
    static String shownHeld(TreeStream x, int d, int register) {
        StringBuilder text = new StringBuilder();
        for (int i = 0; i < x.held(d, register, TreeStream.NONE); i++) {
            int sign = x.held(d, register, i);
            text.append(sign == 3 ? ">" : "<" + "abc".charAt(sign));
        }
        return text.toString();
    }

    static String repeated(String part, int times) {
        StringBuilder text = new StringBuilder();
        for (int i = 0; i < times; i++) {
            text.append(part);
        }
        return text.toString();
    }
}
