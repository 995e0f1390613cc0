/** By hand: each promise with ordinary inputs, the edges that the document names, and wrong inputs. */
public final class PromisesTest {
    private static final int NONE = TreeStream.NONE;

    private static final String COPY = "machine 1 1;open a 0 0 0;open b 0 0 0;open c 0 0 0;"
        + "close a 0 0 0=y0<a x0>;close b 0 0 0=y0<b x0>;close c 0 0 0=y0<c x0>;end 0=x0";
    /** Turns every row around; reads a and b alone. */
    private static final String TURN = "machine 1 1;open a 0 0 0;open b 0 0 0;"
        + "close a 0 0 0=<a x0>y0;close b 0 0 0=<b x0>y0;end 0=x0";
    /** a becomes b, b becomes c, all within an a. */
    private static final String SHIFT = "machine 1 1;open a 0 0 0;open b 0 0 0;"
        + "close a 0 0 0=y0<b x0>;close b 0 0 0=y0<c x0>;end 0=<a x0>";
    /** Reads one a alone. */
    private static final String ONE = "machine 2 1;open a 0 1 5;close a 1 5 1=<b>;end 1=x0";
    /** As much as can be written: six ELEMENTS for each, six at the END. */
    private static final String GROW = "machine 1 1;open a 0 0 0;close a 0 0 0=y0<a<a<a<a<a<a x0>>>>>>;end 0=<a<a<a<a<a<a x0>>>>>>";

    private static Check check;

    public static void main(String[] args) {
        check = new Check();
        newObject();
        tape();
        machines();
        documents();
        counts();
        readings();
        readingLimits();
        readingKeepsItsMachine();
        wholeDocuments();
        refusals();
        peaks();
        bounds();
        states();
        many();
        least();
        differ();
        spoils();
        safe();
        noMachines();
        strangeArguments();
        check.ends();
    }

    private static TreeStream with(String... texts) {
        TreeStream x = new TreeStream();
        for (int k = 0; k < texts.length; k++) {
            check.due("machine " + texts[k], Check.tell(x, k, texts[k]) >= 0 ? 1 : 0, 1);
        }
        return x;
    }

    private static void newObject() {
        TreeStream x = new TreeStream();
        for (int what = 0; what <= 9; what++) {
            check.due("P1 count " + what, x.count(what), 0);
        }
        check.due("P1 event", x.event(0, false), NONE);
        check.due("P1 event out", x.event(0, true), NONE);
        check.due("P1 fault", x.fault(), 0);
        check.due("P1 state", x.state(), NONE);
        check.due("P1 take", x.take(), 0);
        check.due("P1 NONE", NONE, -1);
    }

    private static void tape() {
        TreeStream x = new TreeStream();
        for (int i = 1; i <= 30; i++) {
            check.due("P2 feed", x.feed(0x20202020, 0x0a0a0a0a, 0x20202020, 0x20202020, 0x20202020), 20 * i);
        }
        check.due("P2 feed, 601", x.feed(0, 0, 0, 0, 0), NONE);
        check.due("P2 none came", x.count(9), 600);
        check.due("P3 end 601", x.end(601) ? 1 : 0, 0);
        check.due("P3 end -1", x.end(-1) ? 1 : 0, 0);
        check.due("P3 it stays", x.count(9), 600);
        check.due("P3 end 600", x.end(600) ? 1 : 0, 1);
        check.due("P3 end 581", x.end(581) ? 1 : 0, 1);
        check.due("P2 feed, 601 again", x.feed(0, 0, 0, 0, 0), NONE);
        check.due("P3 end 580", x.end(580) ? 1 : 0, 1);
        check.due("P3 end 581 of 580", x.end(581) ? 1 : 0, 0);
        check.due("P2 feed to 600", x.feed(0x20202020, 0x20202020, 0x20202020, 0x20202020, 0x20202020), 600);
        check.due("P5 600 blanks", x.document(), 0);
        check.due("P5 empty then", x.count(9), 0);
        check.due("P3 end 0", x.end(0) ? 1 : 0, 1);
        check.due("P3 end 1 of none", x.end(1) ? 1 : 0, 0);
        x.feed(0x3c613e3c, 0x623e3c63, 0x3e202020, 0x20202020, 0x2020203c);
        check.due("P2 the last byte counts", x.document(), -2);
        check.due("P6 at the text's end", x.fault(), 1 + 8 * 20);
        x.feed(0x3c613e3c, 0x623e3c63, 0x3e202020, 0x20202020, 0x2020203c);
        x.end(19);
        check.due("P2 the highest byte first", x.document(), 3);
        check.due("P2 in order", Check.shown(x, false), "<a><b><c>");
        x.feed(0x3c61ff3e, 0, 0, 0, 0);
        x.end(4);
        x.document();
        check.due("P2 a byte above 127", x.fault(), 1 + 8 * 2);
    }

    private static void machines() {
        TreeStream x = new TreeStream();
        Check.feed(x, COPY);
        check.due("P4 no such k", x.machine(4), NONE);
        check.due("P4 no such k", x.machine(-1), NONE);
        check.due("P4 the tape stays", x.count(9), COPY.length());
        check.due("P4 rules", x.machine(3), 7);
        check.due("P4 empty then", x.count(9), 0);
        check.due("P8 one machine", x.count(0), 1);
        check.due("P4 a fault", Check.tell(x, 3, "machine 7 1"), -2);
        check.due("P4 empty then", x.count(9), 0);
        check.due("P4 it stays", x.of(3, 2), 3);
        check.due("P6 fault", x.fault(), 2 + 8 * 8);
        Check.feed(x, "<");
        check.due("P4 no such k", x.machine(17), NONE);
        check.due("P6 that did not read", x.fault(), 2 + 8 * 8);
        check.due("P5 a fault", x.document(), -2);
        check.due("P6 of the latest", x.fault(), 1 + 8);
        check.due("P4 instead", Check.tell(x, 3, "machine 6 3"), 0);
        check.due("P6 without", x.fault(), 0);
        check.due("P8 still one", x.count(0), 1);
        int[] due = {6, 3, 0, 0, 0, 0};
        for (int what = 0; what < 6; what++) {
            check.due("P7 of " + what, x.of(3, what), due[what]);
        }
        check.due("P7 of 6", x.of(3, 6), NONE);
        check.due("P7 of -1", x.of(3, -1), NONE);
        check.due("P7 none such", x.of(2, 0), NONE);
        check.due("P7 none such", x.of(-1, 0), NONE);
        check.due("P7 none such", x.of(4, 0), NONE);
        Check.tell(x, 0, "machine2 3 ;open a000;"
            .replace("a000", "a 0 1 0")
            + "close b 0 5 1=<a<b>x0>,<c>,y2;close b 1 5 1=,,;\nend0=<a><a><a><a>x0;end 1=<b>");
        int[] two = {2, 3, 1, 2, 2, 4};
        for (int what = 0; what < 6; what++) {
            check.due("P7 of " + what, x.of(0, what), two[what]);
        }
        Check.tell(x, 0, "machine 2 3;close b 0 5 1=<a<b>x0>,<c>,y2;end 0=");
        check.due("P7 all expressions of a rule", x.of(0, 5), 3);
        for (int k = 0; k < 4; k++) {
            check.due("P4 machine 1 1", Check.tell(x, k, "machine 1 1"), 0);
        }
        check.due("P8 four", x.count(0), 4);
    }

    private static void documents() {
        TreeStream x = new TreeStream();
        check.due("P5", Check.give(x, " <a\n<b> <c<a>> >< b >"), 5);
        check.due("P9 events", Check.shown(x, false), "<a<b><c<a>>><b>");
        check.due("P9 NONE", x.event(10, false), NONE);
        check.due("P9 NONE", x.event(-1, false), NONE);
        check.due("P9 OUT is none", x.event(0, true), NONE);
        check.due("P8 elements", x.count(1), 5);
        check.due("P8 deep", x.count(2), 3);
        check.due("P5 a fault", Check.give(x, "<a>>"), -2);
        check.due("P6", x.fault(), 1 + 8 * 3);
        check.due("P5 it stays", Check.shown(x, false), "<a<b><c<a>>><b>");
        check.due("P5 40", Check.give(x, Check.repeated("<a", 40) + Check.repeated(">", 40)), 40);
        check.due("P8 deep", x.count(2), 40);
        check.due("P5 41", Check.give(x, Check.repeated("<a", 41) + Check.repeated(">", 41)), -2);
        check.due("P6 the 41st", x.fault(), 5 + 8 * 80);
        check.due("P5 none", Check.give(x, ""), 0);
        check.due("P8 deep", x.count(2), 0);
    }

    private static void counts() {
        TreeStream x = with(GROW, COPY);
        check.due("P8 another what", x.count(10), NONE);
        check.due("P8 another what", x.count(-1), NONE);
        Check.give(x, "<a<a><a>>");
        check.due("P16", x.run(0), 24);
        check.due("P8 OUT", x.count(3), 24);
        check.due("P8 OUT deep", x.count(4), 18);
        check.due("P8 the document", x.count(1), 3);
        check.due("P10 take", x.take(), 24);
        check.due("P10 too", x.count(1), 24);
        check.due("P10 OUT stays", x.count(3), 24);
        check.due("P16 more than 40", x.run(0), 24 * 6 + 6);
        check.due("P10 more than 40", x.take(), NONE);
        check.due("P10 it stays", x.count(1), 24);
        check.due("P8 OUT", x.count(3), 150);
        Check.give(x, Check.repeated("<a>", 40));
        check.due("P16 40", x.run(1), 40);
        Check.give(x, "<b>");
        check.due("P10 just 40", x.take(), 40);
        check.due("P9", Check.shown(x, false), Check.repeated("<a>", 40));
    }

    private static void readings() {
        TreeStream x = with("machine 3 2;open a 0 1 2;open b 1 2 3;close b 2 3 1=y1<c x0>,y0;"
            + "close a 1 2 0=x0 y0,<a>y1;end 0=x1<b x0>");
        check.due("P12 none begun", x.next(0), NONE);
        check.due("P15 none begun", x.finish(), NONE);
        check.due("P14 none begun", x.held(NONE, 0, NONE), NONE);
        check.due("P11", x.begin(0), 0);
        check.due("P13", x.state(), 0);
        check.due("P12 no such", x.next(4), NONE);
        check.due("P12 no such", x.next(-1), NONE);
        check.due("P12 close", x.next(3), -2);
        check.due("P12 refused", x.next(1), NONE);
        check.due("P8 came", x.count(5), 0);
        check.due("P12 open", x.next(0), 1);
        check.due("P13", x.state(), 1);
        check.due("P12 refused", x.next(0), NONE);
        check.due("P12 refused close", x.next(2), NONE);
        check.due("P13 it stays", x.state(), 1);
        check.due("P12 open", x.next(1), 2);
        check.due("P8 came", x.count(5), 2);
        check.due("P8 marks", x.count(6), 2);
        check.due("P15 marks", x.finish(), NONE);
        check.due("P12 close", x.next(3), 1);
        check.due("P14", Check.shownHeld(x, NONE, 0), "<c>");
        check.due("P14", Check.shownHeld(x, NONE, 1), "");
        check.due("P12 close", x.next(3), 0);
        check.due("P14", Check.shownHeld(x, NONE, 0), "<c>");
        check.due("P14", Check.shownHeld(x, NONE, 1), "<a>");
        check.due("P8 held", x.count(7), 2);
        check.due("P11 another", x.begin(4), NONE);
        check.due("P11 the one that was stays", x.count(5), 4);
        check.due("P12 open", x.next(0), 1);
        check.due("P8 held on the stack", x.count(7), 2);
        check.due("P14 now", x.held(NONE, 0, NONE), 0);
        check.due("P14 on the stack", Check.shownHeld(x, 0, 0), "<c>");
        check.due("P14 on the stack", Check.shownHeld(x, 0, 1), "<a>");
        check.due("P14 no such mark", x.held(1, 0, NONE), NONE);
        check.due("P14 no such mark", x.held(-2, 0, NONE), NONE);
        check.due("P14 no such register", x.held(0, 2, NONE), NONE);
        check.due("P14 no such register", x.held(0, -1, NONE), NONE);
        check.due("P14 the last", x.held(0, 1, 1), 3);
        check.due("P14 not so many", x.held(0, 1, 2), NONE);
        check.due("P14 i -2", x.held(0, 1, -2), NONE);
        check.due("P12 open", x.next(1), 2);
        check.due("P14 the second from the last", Check.shownHeld(x, 1, 1), "<a>");
        check.due("P14 the last", Check.shownHeld(x, 0, 1), "");
        check.due("P12 close", x.next(3), 1);
        check.due("P8 held", x.count(7), 3);
        check.due("P8 most", x.count(8), 3);
        check.due("P12 close", x.next(3), 0);
        check.due("P14", Check.shownHeld(x, NONE, 0), "<c><c>");
        check.due("P14", Check.shownHeld(x, NONE, 1), "<a><a>");
        check.due("P8 most", x.count(8), 4);
        check.due("P15", x.finish(), 5);
        check.due("P9 OUT", Check.shown(x, true), "<a><a><b<c><c>>");
        check.due("P13 none then", x.state(), NONE);
        check.due("P15 none then", x.finish(), NONE);
        for (int what = 5; what <= 8; what++) {
            check.due("P8 without a reading", x.count(what), 0);
        }
        TreeStream y = with("machine 2 1;open a 0 1 0;close a 1 0 1=<a>;end 0=<b>");
        y.begin(0);
        y.next(0);
        y.next(3);
        check.due("P15 refused", y.finish(), NONE);
        check.due("P15 all stays", y.state(), 1);
        check.due("P15 all stays", y.count(3), 0);
        y.begin(0);
        check.due("P11 instead of one that was", y.count(5), 0);
        check.due("P8 most anew", y.count(8), 0);
        check.due("P15", y.finish(), 1);
        check.due("P9 OUT", Check.shown(y, true), "<b>");
    }

    private static void readingLimits() {
        TreeStream x = with(COPY, ONE);
        x.begin(0);
        for (int i = 0; i < 60; i++) {
            check.due("P12 open", x.next(i % 3), 0);
        }
        check.due("P12 the 61st mark", x.next(0), -2);
        check.due("P12 all stays", x.count(6), 60);
        for (int i = 0; i < 60; i++) {
            check.due("P12 close", x.next(3), 0);
        }
        check.due("P12 no mark", x.next(3), -2);
        check.due("P8 held", x.count(7), 60);
        check.due("P15", x.finish(), 60);
        check.due("P8 deep", x.count(4), 60);
        check.due("P10 more than 40", x.take(), NONE);
        x.begin(1);
        x.next(0);
        check.due("P12 refused at 1 mark", x.next(0), NONE);
        TreeStream y = with(COPY);
        y.begin(0);
        for (int i = 0; i < 400; i++) {
            y.next(2);
            check.due("P12 close", y.next(3), 0);
        }
        check.due("P12 the 401st", y.next(0), -2);
        check.due("P8 came", y.count(5), 800);
        check.due("P15", y.finish(), 400);
        TreeStream z = with(GROW);
        z.begin(0);
        for (int i = 0; i < 200; i++) {
            z.next(0);
            z.next(3);
        }
        check.due("P8 held", z.count(7), 1200);
        check.due("P14 far", z.held(NONE, 0, 2399), 3);
        check.due("P14 too far", z.held(NONE, 0, 2400), NONE);
        check.due("P15 much", z.finish(), 1206);
    }

    private static void readingKeepsItsMachine() {
        TreeStream x = with(COPY);
        x.begin(0);
        for (int i = 0; i < 12; i++) {
            check.due("P4", Check.tell(x, i % 4, i % 2 == 0 ? ONE : "machine 6 3"), i % 2 == 0 ? 3 : 0);
        }
        check.due("P11 as it was", x.next(2), 0);
        Check.give(x, "<b>");
        x.run(0);
        x.many(0, 3);
        x.differ(0, 1, 2);
        check.due("P11 as it was", x.next(1), 0);
        x.next(3);
        check.due("P11 as it was", x.next(3), 0);
        check.due("P15", x.finish(), 2);
        check.due("P9", Check.shown(x, true), "<c<b>>");
    }

    private static void wholeDocuments() {
        TreeStream x = with(COPY, TURN, SHIFT, GROW);
        Check.give(x, "<a<b><a>><b>");
        check.due("P16", x.run(1), 4);
        check.due("P9", Check.shown(x, true), "<b><a<a><b>>");
        check.due("P16", x.run(2), 5);
        check.due("P9", Check.shown(x, true), "<a<b<c><b>><c>>");
        check.due("P17", x.through(2, 0), 5);
        check.due("P9", Check.shown(x, true), "<a<b<c><b>><c>>");
        check.due("P17", x.through(1, 2), 5);
        check.due("P9", Check.shown(x, true), "<a<c><b<b><c>>>");
        check.due("P17 refused behind", x.through(2, 1), NONE);
        check.due("P17 none such", x.through(4, 1), NONE);
        check.due("P17 none such", x.through(1, -1), NONE);
        check.due("P17 out stays", Check.shown(x, true), "<a<c><b<b><c>>>");
        check.due("P19", x.ahead(2, 1), 0);
        check.due("P19", x.ahead(1, 2), 1);
        check.due("P19 none such", x.ahead(1, 4), NONE);
        check.due("P19 none such", x.ahead(-1, 1), NONE);
        check.due("P19 out stays", Check.shown(x, true), "<a<c><b<b><c>>>");
        check.due("P19 the document stays", Check.shown(x, false), "<a<b><a>><b>");
        Check.give(x, "<c>");
        check.due("P16 refused", x.run(1), NONE);
        check.due("P17 refused ahead", x.through(1, 0), NONE);
        check.due("P19 refused ahead", x.ahead(1, 0), 0);
        check.due("P16 out stays", Check.shown(x, true), "<a<c><b<b><c>>>");
        check.due("P16 none such", x.run(4), NONE);
        Check.give(x, Check.repeated("<a", 40) + Check.repeated(">", 40));
        check.due("P16 large", x.run(3), 246);
        check.due("P8 deep", x.count(4), 246);
        check.due("P17 large", x.through(3, 3), 246 * 6 + 6);
        check.due("P8 deep", x.count(4), 246 * 6 + 6);
        check.due("P9 last", x.event(2 * (246 * 6 + 6) - 1, true), 3);
        check.due("P9 behind the last", x.event(2 * (246 * 6 + 6), true), NONE);
        Check.give(x, "");
        check.due("P16 of none", x.run(0), 0);
        check.due("P16 of none", x.run(2), 1);
        check.due("P17 of none", x.through(2, 1), 1);
    }

    private static void refusals() {
        TreeStream x = with(ONE, COPY);
        check.due("P18 at the end", x.refused(0), 0);
        Check.give(x, "<a>");
        check.due("P18 at none", x.refused(0), NONE);
        Check.give(x, "<a<a>>");
        check.due("P18 within", x.refused(0), 1);
        Check.give(x, "<a><a>");
        check.due("P18 behind", x.refused(0), 2);
        check.due("P18 none such", x.refused(2), -2);
        check.due("P18 none such", x.refused(-1), -2);
        check.due("P18 none such", x.refused(4), -2);
        TreeStream y = with("machine 2 1;open a 0 0 0;open b 0 1 1;close a 0 0 0=;close b 1 1 1=;open a 1 1 0;close a 1 0 1=;end 0=");
        Check.give(y, "<a><b<a>><a>");
        check.due("P18 at the end", y.refused(0), 8);
        Check.give(y, "<a><a<b<a>>>");
        check.due("P18 at a close", y.refused(0), 8);
        check.due("P16", y.run(0), -1);
        Check.give(y, "<a><a<b<a>>>");
        check.due("P20 refused", y.peak(0), NONE);
    }

    private static void peaks() {
        TreeStream x = with(COPY, GROW, "machine 1 2;open a 0 0 0;open b 0 0 0;close a 0 0 0=<a>x0y0,y1<b>x1;close b 0 0 0=,;end 0=x1", ONE);
        check.due("P20 of none", x.peak(0), 0);
        Check.give(x, "<a<b><c>>");
        check.due("P20 all", x.peak(0), 3);
        check.due("P20 refused", x.peak(1), NONE);
        check.due("P20 none such", x.peak(4), NONE);
        Check.give(x, "<a><a><b<a>>");
        check.due("P20 dropped", x.peak(2), 6);
        check.due("P20 refused at the end", x.peak(3), NONE);
        check.due("P16 dropped", x.run(2), 0);
        Check.give(x, "<a><a><b><a>");
        check.due("P20 dropped", x.peak(2), 4);
        check.due("P16", x.run(2), 1);
        Check.give(x, "");
        check.due("P20 refused at the end of none", x.peak(3), NONE);
    }

    private static void bounds() {
        TreeStream x = with(GROW, "machine 1 1;end 0=<a><b>", "machine 1 2;close a 0 0 0=<a>,<b>;close b 0 0 0=<a>,");
        check.due("P21", x.bound(0, 0), 6);
        check.due("P21", x.bound(0, 1000), 6006);
        check.due("P21 no close", x.bound(1, 7), 2);
        check.due("P21 no end", x.bound(2, 7), 14);
        check.due("P21 n", x.bound(0, 1001), NONE);
        check.due("P21 n", x.bound(0, -1), NONE);
        check.due("P21 none such", x.bound(3, 1), NONE);
        check.due("P21 none such", x.bound(-1, 1), NONE);
    }

    private static void states() {
        TreeStream x = with("machine 6 1", "machine 6 1;open a 0 2 0;open b 2 4 1;close b 4 1 5=;close a 5 1 3=;close a 3 0 1=",
            "machine 6 1;open a 0 1 0;close a 1 0 2=;open b 2 3 1;close b 3 1 4=;open c 1 5 2", ONE);
        check.due("P22 the first one", x.states(0), 1);
        check.due("P22 no such close", x.states(1), 1 + 4 + 16 + 32);
        check.due("P22 all", x.states(2), 63);
        check.due("P22", x.states(3), 3);
        check.due("P22 none such", x.states(4), NONE);
        check.due("P22 none such", x.states(-1), NONE);
    }

    private static void many() {
        TreeStream x = with(COPY, TURN, ONE, "machine 1 1");
        long[] catalan = {1, 1, 2, 5, 14, 42, 132, 429, 1430, 4862, 16796, 58786, 208012, 742900, 2674440, 9694845, 35357670};
        long three = 1;
        for (int n = 0; n <= 16; n++) {
            check.due("P23 all of " + n, x.many(0, n), catalan[n] * three);
            check.due("P23 of two letters", x.many(1, n), catalan[n] << n);
            check.due("P23 one", x.many(2, n), n == 1 ? 1 : 0);
            check.due("P23 none", x.many(3, n), 0);
            three *= 3;
        }
        check.due("P23 n", x.many(0, 17), NONE);
        check.due("P23 n", x.many(0, -1), NONE);
        check.due("P23 none such", x.many(4, 1), NONE);
    }

    private static void least() {
        TreeStream x = with(COPY, ONE, "machine 1 1",
            "machine 6 1;open a 0 0 0;open a 1 0 1;open a 2 0 2;open a 3 0 3;open a 4 0 4;"
            + "close a 0 0 1=;close a 1 1 2=;close a 2 2 3=;close a 3 3 4=;close a 4 4 5=;end 5=");
        check.due("P24 none", x.least(0), 0);
        check.due("P24 one", x.least(1), 1);
        check.due("P24 can READ none", x.least(2), NONE);
        check.due("P24 doubling", x.least(3), 31);
        check.due("P24 none such", x.least(4), NONE);
        check.due("P24 none such", x.least(-1), NONE);
    }

    private static void differ() {
        TreeStream x = with(COPY, TURN, ONE, "machine 1 1;open a 0 0 0;open b 0 0 1;close a 0 0 0=y0<a x0>;close b 0 1 0=y0<b x0>;end 0=x0");
        Check.give(x, "<c<c>>");
        check.due("P25 by none", x.differ(1, 1, 4), NONE);
        check.due("P25 it stays", Check.shown(x, false), "<c<c>>");
        check.due("P25 not yet", x.differ(1, 3, 1), NONE);
        check.due("P25 it stays", Check.shown(x, false), "<c<c>>");
        check.due("P25 the order", x.differ(1, 3, 4), 2);
        check.due("P25 the first", Check.shown(x, false), "<a><b>");
        check.due("P25 one can't", x.differ(0, 3, 4), 1);
        check.due("P25 the first", Check.shown(x, false), "<c>");
        check.due("P25 of none", x.differ(0, 2, 0), 0);
        check.due("P25 the first", Check.shown(x, false), "");
        check.due("P25 n", x.differ(0, 1, 5), -2);
        check.due("P25 n", x.differ(0, 1, -1), -2);
        check.due("P25 none such", x.differ(0, 4, 1), -2);
        check.due("P25 none such", x.differ(-1, 0, 1), -2);
        check.due("P25 OUT stays", x.count(3), 0);
        TreeStream y = with("machine 5 1;open a 0 1 0;open a 1 2 0;open a 2 3 0;open b 3 4 0;close b 4 0 4=;close a 4 0 4=;end 4=<a>",
            "machine 5 1;open a 0 1 0;open a 1 2 0;open a 2 3 0;open b 3 4 0;close b 4 0 4=;close a 4 0 4=;end 4=<b>",
            "machine 5 1;open a 0 1 0;open a 1 2 0;open a 2 3 0;open b 3 4 0;close b 4 0 4=;close a 4 0 4=");
        check.due("P25 at 3 none", y.differ(0, 1, 3), NONE);
        check.due("P25 at 4", y.differ(0, 1, 4), 4);
        check.due("P25 the first", Check.shown(y, false), "<a<a<a<b>>>>");
        check.due("P25 an END", y.differ(2, 1, 4), 4);
    }

    private static void spoils() {
        TreeStream x = with(COPY, TURN, SHIFT, ONE);
        Check.give(x, "<c<c>>");
        check.due("P26 by none", x.spoils(1, 2, 4), NONE);
        check.due("P26 it stays", Check.shown(x, false), "<c<c>>");
        check.due("P26", x.spoils(2, 1, 4), 1);
        check.due("P26 the first", Check.shown(x, false), "<b>");
        check.due("P26 of none", x.spoils(0, 3, 0), 0);
        check.due("P26 of one", x.spoils(3, 3, 4), 1);
        check.due("P26 the first", Check.shown(x, false), "<a>");
        check.due("P26 what a can't READ is not spoilt", x.spoils(1, 0, 4), NONE);
        check.due("P26 n", x.spoils(0, 1, 5), -2);
        check.due("P26 n", x.spoils(0, 1, -1), -2);
        check.due("P26 none such", x.spoils(0, 4, 1), -2);
        check.due("P26 none such", x.spoils(-1, 0, 1), -2);
        check.due("P26 OUT stays", x.count(3), 0);
    }

    private static void safe() {
        TreeStream x = with(COPY, TURN, SHIFT, ONE);
        check.due("P27", x.safe(0, 0), 1);
        check.due("P27", x.safe(1, 0), 1);
        check.due("P27", x.safe(2, 0), 1);
        check.due("P27", x.safe(0, 1), 0);
        check.due("P27", x.safe(2, 1), 0);
        check.due("P27", x.safe(0, 3), 0);
        check.due("P27 none such", x.safe(0, 4), NONE);
        check.due("P27 none such", x.safe(-1, 0), NONE);
        TreeStream y = with("machine 4 1", "machine 3 2", "machine 1 3", "machine 2 3");
        check.due("P27 4 STATES", y.safe(0, 3), NONE);
        check.due("P27 3 and 2", y.safe(1, 3), 1);
        check.due("P27 3 REGISTERS", y.safe(2, 3), NONE);
        check.due("P27 b has 3 STATES", y.safe(1, 1), NONE);
        // a writes as many a's as it reads; b wants an even number: spoilt by one
        TreeStream z = with("machine 2 1;open a 0 0 0;open a 1 0 1;close a 0 0 1=y0<a>;close a 0 1 0=y0<a>;end 0=x0",
            "machine 2 1;open a 0 0 0;open a 1 0 1;close a 0 0 1=;close a 0 1 0=;end 0=",
            "machine 2 1;open a 0 0 0;open a 1 0 1;close a 0 0 1=y0<a>;close a 0 1 0=y0<a>;end 1=x0");
        check.due("P27 even for even", z.safe(0, 1), 1);
        check.due("P27 odd for even", z.safe(2, 1), 0);
        check.due("P26 likewise", z.spoils(2, 1, 4), 1);
        // writes a c for seven ELEMENTS at least, where no search by spoils comes
        String late = "machine 3 1;open a 0 0 0;open a 1 0 1;open b 2 0 2;close a 0 0 1=;close a 1 1 2=;close b 2 2 0=<c>;end 0=x0";
        TreeStream w = with(late, TURN, late.replace("<c>", "<b>"));
        check.due("P26 not by four", w.spoils(0, 1, 4), NONE);
        check.due("P27 by seven", w.safe(0, 1), 0);
        check.due("P27 by none", w.safe(2, 1), 1);
        Check.give(w, "<a><a<a>><b<a><a<a>>>");
        check.due("P19 by seven", w.ahead(0, 1), 0);
        check.due("P19 by none", w.ahead(2, 1), 1);
    }

    private static void noMachines() {
        TreeStream x = new TreeStream();
        for (int k = -1; k <= 4; k++) {
            check.due("P7", x.of(k, 0), NONE);
            check.due("P11", x.begin(k), NONE);
            check.due("P16", x.run(k), NONE);
            check.due("P17", x.through(k, k), NONE);
            check.due("P18", x.refused(k), -2);
            check.due("P19", x.ahead(k, k), NONE);
            check.due("P20", x.peak(k), NONE);
            check.due("P21", x.bound(k, 0), NONE);
            check.due("P22", x.states(k), NONE);
            check.due("P23", x.many(k, 0), NONE);
            check.due("P24", x.least(k), NONE);
            check.due("P25", x.differ(k, k, 0), -2);
            check.due("P26", x.spoils(k, k, 0), -2);
            check.due("P27", x.safe(k, k), NONE);
        }
    }

    /** None of these may throw. */
    private static void strangeArguments() {
        int[] strange = {Integer.MIN_VALUE, -3, -2, 5, 600, 1 << 20, 1 << 30, Integer.MAX_VALUE};
        TreeStream x = with(COPY, TURN);
        x.begin(0);
        for (int s : strange) {
            check.due("end", x.end(s) ? 1 : 0, 0);
            check.due("machine", x.machine(s), NONE);
            check.due("of", x.of(s, 0), NONE);
            check.due("of", x.of(0, s), s == 5 ? 1 : NONE);
            check.due("count", x.count(s), s == 5 ? 0 : NONE);
            check.due("event", x.event(s, false), NONE);
            check.due("event", x.event(s, true), NONE);
            check.due("begin", x.begin(s), NONE);
            check.due("next", x.next(s), NONE);
            check.due("held", x.held(s, 0, NONE), NONE);
            check.due("held", x.held(NONE, s, NONE), NONE);
            check.due("held", x.held(NONE, 0, s), NONE);
            check.due("refused", x.refused(s), -2);
            check.due("bound", x.bound(0, s), s == 5 ? 5 : s == 600 ? 600 : NONE);
            check.due("many", x.many(1, s), s == 5 ? 42 * 32 : NONE);
            check.due("differ", x.differ(0, 1, s), -2);
            check.due("spoils", x.spoils(0, 1, s), -2);
            check.due("safe", x.safe(s, s), NONE);
        }
    }
}
