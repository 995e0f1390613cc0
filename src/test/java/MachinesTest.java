/** Promises 21 to 27 and the Terms of BOUND, DIFFER, SPOILS, sentence by sentence: MACHINES as such. */
public final class MachinesTest {
    private static final int NONE = TreeStream.NONE;

    /** Can READ <a<c>> and <a><a> alone. */
    private static final String TWO = "machine 6 1;open a 0 1 0;open c 1 2 1;close c 2 1 3=;close a 3 0 4=;"
        + "close a 1 0 5=;open a 5 5 2;close a 5 2 4=;end 4=";

    /** Can READ <a<a<a<b>>>> alone. */
    private static final String FOUR = "machine 5 1;open a 0 1 0;open a 1 2 0;open a 2 3 0;open b 3 4 0;"
        + "close b 4 0 4=;close a 4 0 4=;end 4=";

    /** Can READ no DOCUMENT of less than 60 ELEMENTS. */
    private static final String FAR = "machine 6 1;open a 0 1 0;close a 0 0 4=;close a 0 3 2=;open a 2 3 2;open a 3 5 3;"
        + "close a 4 0 5=;close a 4 2 1=;open a 5 2 5;close a 5 0 3=;open b 1 4 1;close b 1 2 1=;close b 3 5 3=;"
        + "close b 4 3 2=;open b 5 1 5;open c 1 3 1;open c 2 0 2;close c 3 1 4=;open c 4 2 4;close c 4 5 4=;"
        + "open c 5 2 5;close c 5 0 5=;close c 5 2 0=;close c 5 4 0=;end 1=";

    /** Writes a c for seven ELEMENTS at least, where no search by spoils() comes. */
    private static final String LATE = "machine 3 1;open a 0 0 0;open a 1 0 1;open b 2 0 2;"
        + "close a 0 0 1=;close a 1 1 2=;close b 2 2 0=<c>;end 0=x0";

    private static Check check;

    public static void main(String[] args) {
        check = new Check();
        bound();
        states();
        many();
        least();
        differ();
        spoils();
        safe();
        check.ends();
    }

    // ---- promise 21

    private static void bound() {
        check.sentence("T3: n times the most ELEMENTS that a CLOSE RULE has of its own, and the most that an END RULE has");
        TreeStream x = check.with("machine 2 3;close a 0 0 0=<a>,<b><c>,x0;close b 0 0 0=<a>,,;end 0=<a<b<c<a>>>>;end 1=<a>",
            "machine 1 1;end 0=<a><b>", "machine 1 1;close a 0 0 0=<a>", Samples.BARE);
        check.due("both", x.bound(0, 7), 25);
        check.due("no CLOSE RULE", x.bound(1, 7), 2);
        check.due("no END RULE", x.bound(2, 7), 7);
        check.due("neither", x.bound(3, 7), 0);

        check.sentence("P21: BOUND for n, 0 to 1000");
        TreeStream y = check.with(Samples.GROW);
        check.due("0", y.bound(0, 0), 6);
        check.due("1", y.bound(0, 1), 12);
        check.due("1000", y.bound(0, 1000), 6006);
        check.due("0 of no END RULE", x.bound(2, 0), 0);

        check.sentence("P21: NONE: there are none such");
        check.due("-1", y.bound(0, -1), NONE);
        check.due("1001", y.bound(0, 1001), NONE);
        for (int n : Check.STRANGE) {
            check.due("n " + n, y.bound(0, n), NONE);
            check.due("MACHINE " + n, y.bound(n, 1), NONE);
        }
        for (int k : new int[] {-1, 1, 3, 4}) {
            check.due("MACHINE " + k, y.bound(k, 1), NONE);
        }
    }

    // ---- promise 22

    private static void states() {
        check.sentence("P22: the first one, too");
        TreeStream x = check.with("machine 6 1", "machine 6 1;open a 1 2 0;open b 5 4 0;close a 2 0 3=;end 5=");
        check.due("no RULES", x.states(0), 1);
        check.due("none of it", x.states(1), 1);

        check.sentence("P22: STATES to which a MACHINE can come behind any EVENTS, as bits");
        TreeStream y = check.with("machine 6 1;open a 0 2 0;open b 2 4 1;close b 4 1 5=;close a 5 1 3=;close a 3 0 1=",
            "machine 6 1;open a 0 1 0;close a 1 0 2=;open b 2 3 1;close b 3 1 4=;open c 1 5 2",
            "machine 3 1;open a 0 1 0;open b 0 1 1;close a 1 1 2=;close b 1 0 2=",
            "machine 4 1;open a 0 0 0;open b 0 1 1;close b 1 1 2=;close a 2 0 3=");
        check.due("no such CLOSE", y.states(0), 1 + 4 + 16 + 32);
        check.due("all", y.states(1), 63);
        check.due("other MARKS", y.states(2), 3);
        check.due("within, behind, and around", y.states(3), 15);
        TreeStream z = check.with("machine 6 1;open a 0 0 0;open a 1 0 1;open a 2 0 2;open a 3 0 3;open a 4 0 4;"
            + "close a 0 0 1=;close a 1 1 2=;close a 2 2 3=;close a 3 3 4=;close a 4 4 5=", FAR);
        check.due("far behind", z.states(0), 63);
        check.due("very far behind", z.states(1), 63);

        check.sentence("P22: NONE: there is none such");
        for (int k : new int[] {-1, 2, 4}) {
            check.due("states " + k, z.states(k), NONE);
        }
        for (int k : Check.STRANGE) {
            check.due("states " + k, z.states(k), NONE);
        }
    }

    // ---- promise 23

    private static void many() {
        check.sentence("P23: How many DOCUMENTS of n ELEMENTS, 0 to 16, a MACHINE can READ");
        TreeStream x = check.with(Samples.COPY, Samples.TURN, Samples.ONE, Samples.BARE);
        long[] rows = {1, 1, 2, 5, 14, 42, 132, 429, 1430, 4862, 16796, 58786, 208012, 742900, 2674440, 9694845, 35357670};
        long letters = 1;
        for (int n = 0; n <= 16; n++) {
            check.due("all of " + n, x.many(0, n), rows[n] * letters);
            check.due("of two LETTERS, " + n, x.many(1, n), rows[n] << n);
            check.due("one, " + n, x.many(2, n), n == 1 ? 1 : 0);
            check.due("none, " + n, x.many(3, n), 0);
            letters *= 3;
        }
        TreeStream y = check.with(TWO, FOUR, FAR, "machine 1 1;open a 0 0 0;open b 0 0 1;close a 0 0 0=;close b 0 2 0=;end 0=");
        for (int n = 0; n <= 16; n++) {
            check.due("two, " + n, y.many(0, n), n == 2 ? 2 : 0);
            check.due("of four, " + n, y.many(1, n), n == 4 ? 1 : 0);
            check.due("of more, " + n, y.many(2, n), 0);
            check.due("by MARKS, " + n, y.many(3, n), rows[n]);
        }
        check.due("of none again", x.many(0, 0), 1);

        check.sentence("P23: NONE: there are none such");
        check.due("-1", x.many(0, -1), NONE);
        check.due("17", x.many(0, 17), NONE);
        for (int n : Check.STRANGE) {
            check.due("n " + n, x.many(0, n), NONE);
            check.due("MACHINE " + n, x.many(n, 1), NONE);
        }
        TreeStream z = check.with(Samples.COPY);
        for (int k : new int[] {-1, 1, 3, 4}) {
            check.due("MACHINE " + k, z.many(k, 1), NONE);
        }
    }

    // ---- promise 24

    private static void least() {
        check.sentence("P24: The fewest ELEMENTS of a DOCUMENT that a MACHINE can READ");
        TreeStream x = check.with(Samples.COPY, Samples.ONE, FOUR, FAR);
        check.due("none", x.least(0), 0);
        check.due("one", x.least(1), 1);
        check.due("four", x.least(2), 4);
        check.due("more than a text can have", x.least(3), 60);
        TreeStream y = check.with("machine 6 1;open a 0 0 0;open a 1 0 1;open a 2 0 2;open a 3 0 3;open a 4 0 4;"
            + "close a 0 0 1=;close a 1 1 2=;close a 2 2 3=;close a 3 3 4=;close a 4 4 5=;end 5=",
            "machine 3 1;open a 0 1 0;close a 1 0 1=;open a 1 2 1;close a 2 1 2=;open b 0 0 2;close b 0 2 2=;end 2=");
        check.due("doubled each time", y.least(0), 31);
        check.due("the shorter one of two ways", y.least(1), 1);

        check.sentence("P24: NONE: there is none such");
        for (int k : new int[] {-1, 2, 4}) {
            check.due("least " + k, y.least(k), NONE);
        }
        for (int k : Check.STRANGE) {
            check.due("least " + k, y.least(k), NONE);
        }
        check.sentence("P24: NONE: it can READ none");
        TreeStream z = check.with(Samples.BARE, "machine 2 1;open a 0 0 0;close a 0 0 0=;end 1=",
            "machine 2 1;open a 0 1 0;close a 1 1 0=;end 1=", "machine 2 1;open a 0 1 0;close b 1 0 1=;end 1=");
        check.due("no RULES", z.least(0), NONE);
        check.due("no way", z.least(1), NONE);
        check.due("no way back, by the MARK", z.least(2), NONE);
        check.due("no way back, by the LETTER", z.least(3), NONE);
    }

    // ---- promise 25

    private static TreeStream searched(String... texts) {
        TreeStream x = check.with(texts);
        Check.give(x, "<c<c>>");
        return x;
    }

    private static void stays(TreeStream x) {
        check.due("it stays", Check.shown(x, false), "<c<c>>");
    }

    private static void differ() {
        differs();
        theFirstOfThese();
        leastElements();
        byNone();
        check.sentence("P25: -2: there are none such");
        noneSuchToSearch(false);
    }

    private static void differs() {
        check.sentence("T3: MACHINES DIFFER, if one can READ it and the other one can't");
        TreeStream x = searched(Samples.COPY, Samples.TURN, Samples.BARE, "machine 1 1;end 0=");
        check.due("the first one can", x.differ(0, 1, 4), 1);
        check.due("by", Check.shown(x, false), "<c>");
        check.due("the second one can", x.differ(1, 0, 4), 1);
        check.due("by", Check.shown(x, false), "<c>");
        check.due("by an END RULE", x.differ(2, 3, 4), 0);
        check.due("by an OPEN RULE", x.differ(3, 1, 4), 1);
        check.due("by", Check.shown(x, false), "<a>");
        behindRefused();

        check.sentence("T3: MACHINES DIFFER, if their OUTS are not alike");
        TreeStream y = searched("machine 1 1;end 0=<a>", "machine 1 1;end 0=<b>", "machine 1 1;end 0=<a<a>>", "machine 1 1;end 0=<a><a>");
        check.due("by a LETTER", y.differ(0, 1, 0), 0);
        check.due("by how many", y.differ(0, 2, 0), 0);
        check.due("by what is within", y.differ(2, 3, 0), 0);
        check.due("by what is behind", y.differ(0, 3, 0), 0);
        check.due("by what is behind", y.differ(3, 0, 0), 0);
        check.due("alike", y.differ(3, 3, 4), NONE);
        Check.tell(y, 1, "machine 1 1;end 0=");
        check.due("by none", y.differ(1, 0, 0), 0);
        check.due("by none", y.differ(0, 1, 0), 0);

        check.sentence("T3: neither can READ it, or OUTS are alike: they don't DIFFER");
        TreeStream z = searched(Samples.TURN, "machine 2 2;open a 0 1 3;open b 1 0 1;open a 1 0 5;open b 0 1 2;"
            + "close a 1 3 0=,<a x1>y1;close b 0 1 1=,<b x1>y1;close a 0 5 1=,<a x1>y1;close b 1 2 0=,<b x1>y1;"
            + "close a 0 3 0=,<a x1>y1;close b 1 1 1=,<b x1>y1;close a 1 5 1=,<a x1>y1;close b 0 2 0=,<b x1>y1;end 0=x1",
            Samples.BARE, "machine 1 1;open a 0 0 0;close a 0 0 0=");
        check.due("alike in another way", z.differ(0, 1, 4), NONE);
        check.due("neither can", z.differ(2, 3, 4), NONE);
        stays(z);
    }

    /** Of <b><a> the one could READ all but the first EVENT. */
    private static void behindRefused() {
        TreeStream x = searched("machine 2 1;open a 0 1 0;close a 1 0 0=;end 0=",
            "machine 4 1;open a 0 3 0;close a 3 0 0=;open b 0 1 1;close b 1 1 2=;open a 2 3 2;close a 3 2 0=;end 0=");
        check.due("the second one can", x.differ(0, 1, 4), 2);
        check.due("by", Check.shown(x, false), "<b><a>");
        Check.give(x, "");
        check.due("the first one can", x.differ(1, 0, 4), 2);
        check.due("by", Check.shown(x, false), "<b><a>");
    }

    private static void theFirstOfThese() {
        check.sentence("P25: THE DOCUMENT is the first of these then");
        TreeStream x = searched(TWO, Samples.BARE, Samples.COPY, "machine 1 1;open c 0 0 0;open b 0 0 0;close b 0 0 0=;close c 0 0 0=");
        check.due("two", x.differ(0, 1, 4), 2);
        check.due("within comes ahead of behind", Check.shown(x, false), "<a<c>>");
        check.due("none", x.differ(2, 1, 4), 0);
        check.due("of none", Check.shown(x, false), "");
        TreeStream y = searched(Samples.TURN, Samples.COPY.replace("open c 0 0 0;", ""),
            "machine 2 1;open c 0 1 0;open b 0 1 0;close c 1 0 1=;close b 1 0 1=;end 1=", Samples.BARE);
        check.due("by the order", y.differ(0, 1, 4), 2);
        check.due("the lower LETTER first", Check.shown(y, false), "<a><b>");
        check.due("by one", y.differ(2, 3, 4), 1);
        check.due("the lower LETTER first", Check.shown(y, false), "<b>");
        check.due("OUT stays", y.count(3), 0);

        check.sentence("T3: DOCUMENTS by how many ELEMENTS they have, then by EVENTS, the lower one first");
        TreeStream z = searched("machine 3 1;open a 0 1 0;open a 1 1 1;open c 0 1 2;close a 1 1 2=;close a 2 0 2=;close c 1 2 2=;end 2=",
            Samples.BARE);
        check.due("by how many first", z.differ(0, 1, 4), 1);
        check.due("fewer", Check.shown(z, false), "<c>");
    }

    private static void leastElements() {
        check.sentence("P25: The least ELEMENTS, at most n (0 to 4)");
        atMost(false);
        TreeStream y = searched(FOUR.replace("end 4=", "end 4=<a>"), FOUR.replace("end 4=", "end 4=<b>"),
            "machine 6 1;open c 0 5 0;open c 1 5 1;open c 2 5 2;open c 3 5 3;"
            + "close c 5 0 1=;close c 5 1 2=;close c 5 2 3=;close c 5 3 4=;end 4=", Samples.BARE);
        check.due("by OUTS of 4", y.differ(0, 1, 4), 4);
        check.due("not of 3", y.differ(2, 3, 3), NONE);
        check.due("the last one of all", y.differ(2, 3, 4), 4);
        check.due("by", Check.shown(y, false), "<c><c><c><c>");
    }

    private static void byNone() {
        check.sentence("P25: NONE: by none (it stays)");
        TreeStream x = searched(Samples.TURN, Samples.COPY, FAR, Samples.BARE);
        check.due("by none", x.differ(0, 0, 4), NONE);
        check.due("by none of these", x.differ(0, 1, 0), NONE);
        check.due("by none of 4", x.differ(2, 3, 4), NONE);
        stays(x);
    }

    private static int search(TreeStream x, boolean spoiling, int a, int b, int n) {
        return spoiling ? x.spoils(a, b, n) : x.differ(a, b, n);
    }

    private static void atMost(boolean spoiling) {
        TreeStream x = searched(FOUR, Samples.BARE, Samples.ONE, Samples.MUTE);
        check.due("at most 0", search(x, spoiling, 0, 1, 0), NONE);
        check.due("at most 3", search(x, spoiling, 0, 1, 3), NONE);
        stays(x);
        check.due("at most 4", search(x, spoiling, 0, 1, 4), 4);
        check.due("by", Check.shown(x, false), "<a<a<a<b>>>>");
        check.due("at most 1", search(x, spoiling, 2, 1, 1), 1);
        check.due("by", Check.shown(x, false), "<a>");
        check.due("at most 0", search(x, spoiling, 2, 1, 0), NONE);
        check.due("at most 0", search(x, spoiling, 3, 1, 0), 0);
        check.due("by", Check.shown(x, false), "");
    }

    private static void noneSuchToSearch(boolean spoiling) {
        TreeStream x = searched(Samples.COPY, Samples.BARE);
        check.due("n -1", search(x, spoiling, 0, 1, -1), -2);
        check.due("n 5", search(x, spoiling, 0, 1, 5), -2);
        for (int k : new int[] {-1, 2, 4}) {
            check.due("no first one", search(x, spoiling, k, 0, 4), -2);
            check.due("no second one", search(x, spoiling, 0, k, 4), -2);
            check.due("neither", search(x, spoiling, k, k, 4), -2);
        }
        for (int strange : Check.STRANGE) {
            check.due("n " + strange, search(x, spoiling, 0, 1, strange), -2);
            check.due("MACHINES " + strange, search(x, spoiling, strange, strange, 4), -2);
        }
        stays(x);
    }

    // ---- promise 26

    private static void spoils() {
        check.sentence("T3: A SPOILS for B by a DOCUMENT, if A can READ it and B can't READ OUT");
        TreeStream x = searched(Samples.COPY, Samples.TURN, Samples.SHIFT, Samples.ONE);
        check.due("what A can't READ is not spoilt", x.spoils(1, 0, 4), NONE);
        check.due("what B can READ is not spoilt", x.spoils(1, 2, 4), NONE);
        stays(x);
        check.due("not the other way round", x.spoils(2, 1, 4), 1);
        check.due("by", Check.shown(x, false), "<b>");
        check.due("at the END", x.spoils(0, 3, 4), 0);
        check.due("by", Check.shown(x, false), "");
        check.due("for itself", x.spoils(3, 3, 4), 1);
        check.due("by", Check.shown(x, false), "<a>");
        check.due("OUT stays", x.count(3), 0);
        byMarks();
        firstSpoilt();
        leastSpoilt();
        check.sentence("P26: Likewise: -2: there are none such");
        noneSuchToSearch(true);
    }

    private static void byMarks() {
        check.sentence("T3: B can't READ OUT: at a CLOSE");
        TreeStream x = searched(Samples.COPY, "machine 2 1;open a 0 1 0;open a 1 1 1;close a 1 0 0=;end 0=");
        check.due("spoils", x.spoils(1, 1, 4), NONE);
        check.due("by an OPEN", x.spoils(0, 1, 4), 1);
        check.due("by", Check.shown(x, false), "<b>");
        TreeStream y = searched("machine 1 1;open a 0 0 0;close a 0 0 0=y0<a x0>;end 0=x0", "machine 2 1;open a 0 1 0;open a 1 1 1;close a 1 0 0=;end 0=");
        check.due("by a CLOSE", y.spoils(0, 1, 4), 2);
        check.due("by", Check.shown(y, false), "<a<a>>");
    }

    private static void firstSpoilt() {
        check.sentence("P26: Likewise: THE DOCUMENT is the first of these then");
        TreeStream x = searched(TWO, Samples.BARE, "machine 1 1;open b 0 0 0;open c 0 0 0;close b 0 0 0=<b>;close c 0 0 0=<b>;end 0=x0", Samples.MUTE);
        check.due("two", x.spoils(0, 1, 4), 2);
        check.due("within comes ahead of behind", Check.shown(x, false), "<a<c>>");
        check.due("one", x.spoils(2, 3, 4), 1);
        check.due("the lower LETTER first", Check.shown(x, false), "<b>");
    }

    private static void leastSpoilt() {
        check.sentence("P26: Likewise: The least ELEMENTS, at most n (0 to 4)");
        atMost(true);

        check.sentence("P26: Likewise: NONE: by none (it stays)");
        TreeStream x = searched(Samples.MUTE, LATE);
        check.due("by none", x.spoils(0, 0, 4), NONE);
        check.due("by none of 4", x.spoils(1, 0, 4), NONE);
        stays(x);
    }

    // ---- promise 27

    private static void safe() {
        check.sentence("P27: Whether a never SPOILS for b, by any DOCUMENT (1, 0)");
        TreeStream x = searched(Samples.COPY, Samples.TURN, Samples.SHIFT, Samples.ONE);
        int[][] due = {{1, 0, 0, 0}, {1, 1, 1, 0}, {1, 0, 0, 0}, {1, 1, 1, 0}};
        for (int a = 0; a < 4; a++) {
            for (int b = 0; b < 4; b++) {
                check.due("safe " + a + " " + b, x.safe(a, b), due[a][b]);
            }
        }
        stays(x);
        check.due("OUT stays", x.count(3), 0);
        byEven();
        byFar();
        byReadingNone();
        spoiltPairs();
        safePairs();
        withinLimits();
        noneSuchToBeSafe();
    }

    private static void byEven() {
        check.sentence("P27: by any DOCUMENT: what a never writes does no harm");
        String even = "machine 2 1;open a 0 0 0;open a 1 0 1;close a 0 0 1=y0<a>;close a 0 1 0=y0<a>;end 0=x0";
        TreeStream x = check.with(even, even.replace("y0<a>", ""), even.replace("end 0", "end 1"));
        check.due("even for even", x.safe(0, 1), 1);
        check.due("odd for even", x.safe(2, 1), 0);
        check.due("likewise", x.spoils(2, 1, 4), 1);
        check.due("even for odd", x.safe(0, 2), 0);
        check.due("odd for odd", x.safe(2, 2), 1);
    }

    private static void byFar() {
        check.sentence("P27: by any DOCUMENT: one of more than 4 ELEMENTS, too");
        TreeStream x = check.with(LATE, Samples.TURN, LATE.replace("<c>", "<b>"));
        check.due("not by four", x.spoils(0, 1, 4), NONE);
        check.due("by seven", x.safe(0, 1), 0);
        check.due("by none", x.safe(2, 1), 1);
        Check.give(x, "<a><a<a>><b<a><a<a>>>");
        check.due("by this one", x.ahead(0, 1), 0);
        check.due("not by this one", x.ahead(2, 1), 1);
    }

    private static void byReadingNone() {
        check.sentence("P27: by any DOCUMENT: a that can READ none never SPOILS");
        TreeStream x = check.with(Samples.BARE, "machine 2 1;open a 0 1 0;close a 1 1 0=;end 1=<c>", "machine 1 1;end 0=", "machine 1 1;end 0=<a>");
        check.due("no RULES", x.safe(0, 0), 1);
        check.due("no way to its END", x.safe(1, 0), 1);
        check.due("of none", x.safe(2, 0), 0);
        check.due("of none", x.safe(2, 2), 1);
        check.due("one for none", x.safe(3, 2), 0);
    }

    /** a SPOILS for b by this DOCUMENT. */
    private static void spoilt(String a, String b, String document) {
        TreeStream x = check.with(a, b);
        Check.give(x, document);
        check.due("READ, " + a, x.refused(0), NONE);
        check.due("not READ BEHIND, " + b, x.ahead(0, 1), 0);
        check.due("safe, " + a + " | " + b, x.safe(0, 1), 0);
        check.due("safe once more", x.safe(0, 1), 0);
    }

    private static void spoiltPairs() {
        check.sentence("P27: a SPOILS for b: 0");
        String onlyA = "machine 1 1;open a 0 0 0;close a 0 0 0=;end 0=";
        // what the END RULE writes around x, ahead of it and behind it
        spoilt("machine 1 1;end 0=<a<b>>", "machine 2 1;open a 1 1 0;open a 0 1 0;close a 1 0 1=;end 1=", "");
        spoilt("machine 1 1;end 0=<a<a>>", "machine 2 1;end 1=;close a 1 0 1=;close a 0 0 1=;end 0=;open a 0 1 0", "");
        spoilt("machine 1 2;end 0=<c<a x0x1>>;open a 0 0 0", "machine 2 1;open a 1 1 0;end 0=;open a 0 1 0;close a 1 0 0=;end 1=", "");
        spoilt("machine 1 2;end 0=<b><a x0><a><b>x1<c>",
            "machine 2 1;open a 1 1 0;open a 0 1 0;close b 1 0 0=;close a 0 0 0=;open b 1 1 0;open b 0 1 0;end 0=", "");
        // what comes into one REGISTER by the other one
        spoilt("machine 1 2;end 0=x0;open a 0 0 5;close a 0 5 0=y0x1,y1<b x0>", "machine 1 1;end 0=", "<a<a>>");
        spoilt("machine 2 2;open a 0 0 0;close a 0 0 1=y1,x0<c y0>;end 1=x0;open a 1 0 0", onlyA, "<a><a>");
        spoilt("machine 1 2;open b 0 0 0;close b 0 0 0=y0<a>,y1<a>;end 0=<b x0>",
            "machine 2 1;open b 0 1 0;close b 1 0 0=;open a 0 0 1;open a 1 0 1;close a 0 1 0=;end 0=", "<b>");
        // by one that is within, by one that is ahead, and not the latest that was found
        spoilt("machine 1 1;close a 0 0 0=x0<c><a y0>;open a 0 0 0;end 0=x0",
            "machine 2 1;close a 0 0 0=;end 0=;open a 0 1 0;end 1=;close a 1 0 0=;open a 1 0 0", "<a>");
        spoilt("machine 2 2;end 0=x0<a<a>>;open a 1 0 0;open a 0 0 0;close a 0 0 1=,y1x1;end 1=x0;close a 1 0 0=y0x1x0,<b<a y1>>", onlyA, "<a<a<a<a>>>>");
        spoilt("machine 3 1;open a 0 2 0;open a 1 0 0;open a 2 1 0;end 2=x0;end 1=x0;close a 0 0 0=<c<a>>x0;close a 1 0 1=x0y0", onlyA, "<a<a<a><a<a>>>>");
    }

    private static void unspoilt(String a, String b) {
        TreeStream x = check.with(a, b);
        check.due("safe, " + a + " | " + b, x.safe(0, 1), 1);
        check.due("spoils", x.spoils(0, 1, 4), NONE);
    }

    private static void safePairs() {
        check.sentence("P27: a never SPOILS for b: 1");
        String onlyA = "machine 1 1;close a 0 0 0=;open a 0 0 0";
        unspoilt("machine 1 1;end 0=<a x0>;close a 0 0 0=y0x0;open a 0 0 5", "machine 2 1;end 0=;close a 1 0 0=;end 1=;open a 0 1 0");
        unspoilt("machine 1 1;end 0=<a>x0<a>", "machine 2 1;open a 0 0 5;close a 1 0 1=;close a 0 5 0=;close a 0 0 1=;end 0=;open a 1 0 5");
        unspoilt("machine 1 1;open b 0 0 0;close b 0 0 0=y0<b>;end 0=<a>x0",
            "machine 2 1;open a 0 0 0;close a 0 0 1=;open b 1 1 1;close b 1 1 1=;end 1=");
        unspoilt("machine 1 2;open a 0 0 0;close a 0 0 0=y0<c>,y1<a>;end 0=x1", Samples.MUTE);
        unspoilt(Samples.GROW, Samples.MUTE);
        // a can READ none of what would spoil
        unspoilt("machine 2 1;end 1=x0<c>;close a 1 0 0=x0y0<c>;close a 0 0 1=y0x0;open a 0 1 0", onlyA);
        unspoilt("machine 2 2;end 0=x1x0;close a 0 0 0=x0x1y0,y1<b>;open a 0 1 0;close a 0 4 0=x1x0<b>,y0", "machine 1 1;end 0=");
        unspoilt("machine 2 2;open a 1 1 0;close a 0 5 1=x1x0<a>y0,;end 1=<a<b>>;close a 1 0 1=y0<c>,y1x0<c>;open a 0 1 5", "machine 1 1;end 0=");
        unspoilt("machine 2 1;open a 0 1 0;close a 0 0 0=x0<a><c>y0;close a 1 0 1=<a y0x0>;end 1=x0",
            "machine 2 1;open a 0 1 0;end 1=;end 0=;open a 1 1 0;close a 1 0 0=");
    }

    private static void withinLimits() {
        check.sentence("P27: a of 3 STATES and 2 REGISTERS, b of 2 STATES are not too many");
        String three = "machine 3 2;open a 0 1 0;open b 1 2 1;open c 2 0 2;close c 0 2 2=,y0 x0<c x1>y1;close b 2 1 1=<b x1>,;"
            + "close a 1 0 0=y1 x0,y0;end 0=x0 x1;end 1=x1;end 2=x0";
        TreeStream x = check.with(three, "machine 2 3;open b 0 1 5;close b 1 5 1=,,;open c 1 1 4;close c 1 4 1=,,;end 0=;end 1=",
            "machine 2 3;open b 0 1 5;close b 1 5 1=,,;end 0=;end 1=", "machine 3 2");
        check.due("spoilt", x.safe(0, 1), x.spoils(0, 1, 4) == NONE ? 1 : 0);
        check.due("spoilt by two b", x.safe(0, 2), 0);
        check.due("of no RULES", x.safe(3, 2), 1);
    }

    private static void noneSuchToBeSafe() {
        check.sentence("P27: NONE: a has more than 3 STATES or 2 REGISTERS, b more than 2 STATES");
        TreeStream x = check.with("machine 4 1", "machine 3 2", "machine 1 3", "machine 2 3");
        check.due("a of 4 STATES", x.safe(0, 3), NONE);
        check.due("a of 3 REGISTERS", x.safe(2, 3), NONE);
        check.due("b of 3 STATES", x.safe(1, 1), NONE);
        check.due("b of 4 STATES", x.safe(1, 0), NONE);
        check.due("a of 3 and 2, b of 2 and 3", x.safe(1, 3), 1);
        check.due("b of 1 and 3", x.safe(1, 2), 1);
        TreeStream y = check.with("machine 6 3", "machine 1 1", "machine 6 1");
        check.due("a of 6 and 3", y.safe(0, 1), NONE);
        check.due("b of 6", y.safe(1, 2), NONE);

        check.sentence("P27: NONE: there are none such");
        TreeStream z = check.with(Samples.COPY);
        for (int k : new int[] {-1, 1, 3, 4}) {
            check.due("no first one", z.safe(k, 0), NONE);
            check.due("no second one", z.safe(0, k), NONE);
        }
        for (int k : Check.STRANGE) {
            check.due("no first one", z.safe(k, 0), NONE);
            check.due("no second one", z.safe(0, k), NONE);
        }
    }
}
