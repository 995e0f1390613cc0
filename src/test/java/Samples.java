/** MACHINES that several tests use, as texts. */
final class Samples {
    private Samples() {
    }

    /** Writes what it reads. */
    static final String COPY = "machine 1 1;open a 0 0 0;open b 0 0 0;open c 0 0 0;"
        + "close a 0 0 0=y0<a x0>;close b 0 0 0=y0<b x0>;close c 0 0 0=y0<c x0>;end 0=x0";

    /** Turns every row around; reads a and b alone. */
    static final String TURN = "machine 1 1;open a 0 0 0;open b 0 0 0;"
        + "close a 0 0 0=<a x0>y0;close b 0 0 0=<b x0>y0;end 0=x0";

    /** a becomes b, b becomes c, all within an a; reads a and b alone. */
    static final String SHIFT = "machine 1 1;open a 0 0 0;open b 0 0 0;"
        + "close a 0 0 0=y0<b x0>;close b 0 0 0=y0<c x0>;end 0=<a x0>";

    /** Reads one a alone, and writes a b. */
    static final String ONE = "machine 2 1;open a 0 1 5;close a 1 5 1=<b>;end 1=x0";

    /** As much as can be written: six ELEMENTS for each, six at the END. Reads a alone. */
    static final String GROW = "machine 1 1;open a 0 0 0;close a 0 0 0=y0<a<a<a<a<a<a x0>>>>>>;end 0=<a<a<a<a<a<a x0>>>>>>";

    /** Reads every row of a's, and writes none. */
    static final String MUTE = "machine 1 1;open a 0 0 0;close a 0 0 0=;end 0=";

    /** No RULES. */
    static final String BARE = "machine 1 1";

    /** 24 RULES, in 6 STATES: a MACHINE that opens every LETTER, closes none, and ends everywhere. */
    static String full() {
        StringBuilder text = new StringBuilder("machine 6 1");
        for (int letter = 0; letter < 3; letter++) {
            for (int state = 0; state < 6; state++) {
                text.append(";open ").append("abc".charAt(letter)).append(" ").append(state).append(" 0 0");
            }
        }
        for (int state = 0; state < 6; state++) {
            text.append(";end ").append(state).append("=");
        }
        return text.toString();
    }
}
