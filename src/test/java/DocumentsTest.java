/** Promises 16 to 20, sentence by sentence: whole DOCUMENTS. */
public final class DocumentsTest {
    private static final int NONE = TreeStream.NONE;

    /** Reads rows of a's, in STATE 0; a b goes to STATE 1, that no CLOSE RULE of an a has, nor an END RULE. */
    private static final String PICKY = "machine 2 1;open a 0 0 0;open b 0 1 1;open a 1 1 0;"
        + "close a 0 0 0=y0<a x0>;close b 1 1 1=y0<b x0>;end 0=x0";

    private static Check check;

    public static void main(String[] args) {
        check = new Check();
        run();
        through();
        refused();
        ahead();
        peak();
        check.ends();
    }

    /** With an OUT of <c>, and THE DOCUMENT of <a>. */
    private static TreeStream written(String... texts) {
        TreeStream x = check.with("machine 1 1;end 0=<c>");
        x.run(0);
        for (int k = 0; k < texts.length; k++) {
            check.due("machine " + texts[k], Check.tell(x, k, texts[k]) >= 0, true);
        }
        Check.give(x, "<a>");
        return x;
    }

    private static void stays(TreeStream x) {
        check.due("OUT stays", Check.shown(x, true), "<c>");
    }

    // ---- promise 16

    private static void run() {
        check.sentence("P16: THE DOCUMENT is READ by a MACHINE: how many ELEMENTS OUT has");
        TreeStream x = check.with(Samples.TURN, Samples.SHIFT, Samples.GROW, Samples.MUTE);
        check.due("of none", x.run(0), 0);
        check.due("of none", x.run(1), 1);
        Check.give(x, "<a<b><a>><b>");
        check.due("turned", x.run(0), 4);
        check.due("OUT", Check.shown(x, true), "<b><a<a><b>>");
        check.due("shifted", x.run(1), 5);
        check.due("OUT", Check.shown(x, true), "<a<b<c><b>><c>>");
        check.due("THE DOCUMENT stays", Check.shown(x, false), "<a<b><a>><b>");
        Check.give(x, Check.nested("a", 40));
        check.due("much", x.run(2), 246);
        check.due("deep", x.count(4), 246);
        check.due("none", x.run(3), 0);
        check.due("OUT of none", x.event(0, true), NONE);
        Check.give(x, "<a>".repeat(40));
        check.due("much", x.run(2), 246);
        check.due("a row", x.count(4), 12);
        Check.give(x, "");
        check.due("little again", x.run(2), 6);
        check.due("OUT", Check.shown(x, true), Check.nested("a", 6));

        check.sentence("P16: NONE: there is none such (OUT stays)");
        TreeStream y = written(Samples.COPY);
        for (int k : new int[] {-1, 1, 3, 4}) {
            check.due("run " + k, y.run(k), NONE);
        }
        for (int k : Check.STRANGE) {
            check.due("run " + k, y.run(k), NONE);
        }
        stays(y);
        refusedRuns();
    }

    private static void refusedRuns() {
        check.sentence("P16: NONE: REFUSED (OUT stays)");
        TreeStream x = written(PICKY);
        for (String text : new String[] {"<c>", "<a><a<c>>", "<b<b>>"}) {
            Check.give(x, text);
            check.due("an OPEN of " + text, x.run(0), NONE);
            stays(x);
        }
        for (String text : new String[] {"<b<a>>", "<a<b>>"}) {
            Check.give(x, text);
            check.due("a CLOSE of " + text, x.run(0), NONE);
            stays(x);
        }
        Check.give(x, "<a><b>");
        check.due("the END", x.run(0), NONE);
        stays(x);
        Check.give(x, "<a<a>>");
        check.due("READ", x.run(0), 2);
    }

    // ---- promise 17

    private static void through() {
        check.sentence("P17: READ by a, then READ BEHIND by b: how many ELEMENTS OUT has (that of b)");
        TreeStream x = check.with(Samples.TURN, Samples.SHIFT, Samples.GROW, Samples.MUTE);
        check.due("of none", x.through(0, 0), 0);
        check.due("of none", x.through(0, 1), 1);
        Check.give(x, "<a<b><a>><b>");
        check.due("twice the same", x.through(0, 0), 4);
        check.due("OUT", Check.shown(x, true), "<a<b><a>><b>");
        check.due("turned, shifted", x.through(0, 1), 5);
        check.due("OUT", Check.shown(x, true), "<a<c><b<b><c>>>");
        check.due("THE DOCUMENT stays", Check.shown(x, false), "<a<b><a>><b>");
        Check.give(x, "<a<a>>");
        check.due("none between", x.through(3, 1), 1);
        check.due("OUT", Check.shown(x, true), "<a>");
        check.due("none at last", x.through(2, 3), 0);
        check.due("OUT of none", x.event(0, true), NONE);
        Check.give(x, Check.nested("a", 40));
        check.due("much", x.through(2, 2), 1482);
        check.due("deep", x.count(4), 1482);
        check.due("the last", x.event(2963, true), 3);
        check.due("behind the last", x.event(2964, true), NONE);
        Check.give(x, "<a>".repeat(40));
        check.due("much", x.through(2, 2), 1482);

        check.sentence("P17: NONE: there is none such (OUT stays)");
        TreeStream y = written(Samples.COPY);
        for (int k : new int[] {-1, 1, 4, Integer.MIN_VALUE, Integer.MAX_VALUE}) {
            check.due("no first one", y.through(k, 0), NONE);
            check.due("no second one", y.through(0, k), NONE);
            check.due("none", y.through(k, k), NONE);
        }
        stays(y);
        refusedThroughs();
    }

    private static void refusedThroughs() {
        check.sentence("P17: NONE: REFUSED by a (OUT stays)");
        TreeStream x = written(Samples.COPY, PICKY, "machine 1 1;end 0=<b>");
        for (String text : new String[] {"<c>", "<a<b>>", "<a><b>"}) {
            Check.give(x, text);
            check.due(text, x.through(1, 0), NONE);
            stays(x);
        }
        check.sentence("P17: NONE: REFUSED by b, behind (OUT stays)");
        for (String text : new String[] {"<c>", "<a<b>>", "<a><b>"}) {
            Check.give(x, text);
            check.due(text, x.through(0, 1), NONE);
            stays(x);
        }
        Check.give(x, "");
        check.due("the END behind none", x.through(2, 1), NONE);
        stays(x);
    }

    // ---- promise 18

    private static void at(String text, int due) {
        TreeStream x = check.with(PICKY);
        Check.give(x, text);
        check.due("refused, " + text, x.refused(0), due);
        check.due("THE DOCUMENT stays", x.count(1), text.length() / 3);
        check.due("OUT stays", x.count(3), 0);
    }

    private static void refused() {
        check.sentence("P18: The EVENT of THE DOCUMENT (0 on) at which a MACHINE REFUSES");
        at("<c>", 0);
        at("<a<c>>", 1);
        at("<a><c>", 2);
        at("<a<b>>", 3);
        at("<b<b>>", 1);
        at("<b<a>>", 2);
        at("<a>".repeat(39) + "<c>", 78);
        at(Check.nested("a", 39).replace("a>", "a<c>>"), 39);

        check.sentence("P18: at its END: how many it has");
        at("<b>", 2);
        at("<a>".repeat(39) + "<b>", 80);
        TreeStream x = check.with(Samples.BARE);
        check.due("of none", x.refused(0), 0);

        check.sentence("P18: NONE: at none");
        at("", NONE);
        at("<a>", NONE);
        at("<a>".repeat(40), NONE);
        at(Check.nested("a", 40), NONE);

        check.sentence("P18: -2: there is none such");
        for (int k : new int[] {-1, 1, 3, 4}) {
            check.due("refused " + k, x.refused(k), -2);
        }
        for (int k : Check.STRANGE) {
            check.due("refused " + k, x.refused(k), -2);
        }
    }

    // ---- promise 19

    private static void ahead() {
        check.sentence("P19: Whether THE DOCUMENT can be READ by a and READ BEHIND by b (1, 0)");
        TreeStream x = written(Samples.COPY, PICKY, Samples.GROW, Samples.MUTE);
        check.due("both", x.ahead(1, 1), 1);
        for (String text : new String[] {"<c>", "<a<b>>", "<a><b>"}) {
            Check.give(x, text);
            check.due("not by a: " + text, x.ahead(1, 0), 0);
            check.due("not behind by b: " + text, x.ahead(0, 1), 0);
            check.due("by neither: " + text, x.ahead(1, 1), 0);
        }
        check.due("THE DOCUMENT stays", Check.shown(x, false), "<a><b>");
        Check.give(x, "");
        check.due("of none", x.ahead(0, 1), 1);
        Check.give(x, Check.nested("a", 40));
        check.due("much between", x.ahead(2, 2), 1);
        check.due("much between", x.ahead(2, 1), 1);
        check.due("none between", x.ahead(3, 1), 1);
        stays(x);
        TreeStream y = written(Samples.COPY, Samples.BARE, "machine 1 1;open a 0 0 0;open b 0 0 1;close a 0 0 0=;close b 0 2 0=;end 0=");
        Check.give(y, "");
        check.due("not at the END", y.ahead(0, 1), 0);
        check.due("not at the END", y.ahead(1, 0), 0);
        Check.give(y, "<a<a>><a>");
        check.due("by MARKS", y.ahead(0, 2), 1);
        Check.give(y, "<a<a>><b>");
        check.due("another MARK", y.ahead(0, 2), 0);

        check.sentence("P19: NONE: there are none such");
        TreeStream z = check.with(Samples.COPY, Samples.BARE);
        for (int k : new int[] {-1, 2, 4, Integer.MIN_VALUE, Integer.MAX_VALUE}) {
            check.due("no first one", z.ahead(k, 0), NONE);
            check.due("no second one", z.ahead(0, k), NONE);
            check.due("no second one, though the first one REFUSES", z.ahead(1, k), NONE);
        }
    }

    // ---- promise 20

    private static void peak() {
        check.sentence("P20: The most that is HELD as THE DOCUMENT is READ, behind any of its EVENTS");
        TreeStream x = check.with(Samples.COPY, Samples.GROW, Samples.MUTE,
            "machine 1 2;open a 0 0 0;open b 0 0 0;close a 0 0 0=<a>x0y0,y1<b>x1;close b 0 0 0=,;end 0=x1<c><c><c>");
        check.due("of none", x.peak(0), 0);
        check.due("what the END writes is not HELD", x.peak(1), 0);
        Check.give(x, "<a<b><c>>");
        check.due("at last", x.peak(0), 3);
        Check.give(x, "<a><a><b<a>>");
        check.due("within, with what lies", x.peak(3), 6);
        check.due("gone at last", x.run(3), 3);
        Check.give(x, "<a><a><b><a>");
        check.due("on the way", x.peak(3), 4);
        Check.give(x, "<b><a>");
        check.due("at last", x.peak(3), 2);
        Check.give(x, Check.nested("a", 40));
        check.due("much", x.peak(1), 240);
        check.due("none", x.peak(2), 0);
        check.due("OUT stays", x.count(3), 3);

        check.sentence("P20: NONE: there is none such");
        TreeStream y = check.with(PICKY);
        for (int k : new int[] {-1, 1, 3, 4}) {
            check.due("peak " + k, y.peak(k), NONE);
        }
        for (int k : Check.STRANGE) {
            check.due("peak " + k, y.peak(k), NONE);
        }
        check.sentence("P20: NONE: REFUSED");
        for (String text : new String[] {"<c>", "<a><a<b>>", "<a><b>"}) {
            Check.give(y, text);
            check.due(text, y.peak(0), NONE);
        }
        Check.give(y, "<a>");
        check.due("READ", y.peak(0), 1);
    }
}
