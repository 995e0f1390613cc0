/** Promises 11 to 15 and the Terms of MACHINES, sentence by sentence: a READING, EVENT by EVENT. */
public final class ReadingsTest {
    private static final int NONE = TreeStream.NONE;

    /** Two REGISTERS, in three STATES, with MARKS of their own: a b within an a within nothing. */
    private static final String NEST = "machine 3 2;open a 0 1 2;open b 1 2 3;close b 2 3 1=y1<c x0>,y0;"
        + "close a 1 2 0=x0 y0,<a>y1;end 0=x1<b x0>";

    /** As much as a MACHINE can have: the last STATE, MARK and REGISTER. */
    private static final String LAST = "machine 6 3;open c 0 5 5;open c 5 5 5;close c 5 5 5=x2,y2<c>,x0;end 5=x2 x1 x0";

    private static Check check;

    public static void main(String[] args) {
        check = new Check();
        machines();
        begin();
        next();
        state();
        held();
        finish();
        check.ends();
    }

    // ---- Terms 1

    private static void machines() {
        atFirst();
        opening();
        closing();
        ending();
        lastOfEach();
        refusing();
        holding();
    }

    private static void atFirst() {
        check.sentence("T1: A REGISTER holds a row of ELEMENTS, none at first. It begins in STATE 0");
        TreeStream x = check.with("machine 2 3;end 0=x0x1<c>x2;end 1=<a><a>");
        check.due("begin", x.begin(0), 0);
        for (int register = 0; register < 3; register++) {
            check.due("none", x.held(NONE, register, NONE), 0);
        }
        check.due("finish", x.finish(), 1);
        check.due("OUT", Check.shown(x, true), "<c>");
    }

    private static void opening() {
        check.sentence("T1: OPEN lays its MARK with all REGISTERS as they are; these hold none then");
        TreeStream x = check.with("machine 1 2;open a 0 0 0;close a 0 0 0=y0<a>,y1<b><c>;end 0=");
        x.begin(0);
        check.steps(x, "030", 0, 0, 0);
        check.due("laid 0", Check.shownHeld(x, 0, 0), "<a>");
        check.due("laid 1", Check.shownHeld(x, 0, 1), "<b><c>");
        check.due("now 0", x.held(NONE, 0, NONE), 0);
        check.due("now 1", x.held(NONE, 1, NONE), 0);
    }

    private static void closing() {
        check.sentence("T1: each REGISTER then holds what its EXPRESSION tells, all at once");
        TreeStream x = check.with("machine 1 3;open a 0 0 0;open b 0 0 0;close a 0 0 0=<a>,<b>,<c>;close b 0 0 0=x1,x2 y0,x0<c y2>;end 0=");
        x.begin(0);
        check.steps(x, "031033", 0, 0, 0, 0, 0, 0);
        check.due("x1", Check.shownHeld(x, NONE, 0), "<b>");
        check.due("x2 y0", Check.shownHeld(x, NONE, 1), "<c><a>");
        check.due("x0<c y2>", Check.shownHeld(x, NONE, 2), "<a><c<c>>");

        check.sentence("T1: the MARK, and what lay with it, is gone");
        check.due("y1 is gone", x.count(7), 6);
        check.due("the MARK is gone", x.count(6), 0);
        check.due("what lay is gone", x.held(0, 0, NONE), NONE);

        check.sentence("T1: by the CLOSE RULE of l, q and p, of THE STACK's last MARK");
        TreeStream y = check.with("machine 3 1;open a 0 0 1;open b 0 0 1;open c 0 1 2;open b 1 2 3;"
            + "close a 0 1 0=<a>;close b 0 1 1=<b>;close b 2 3 1=<c>;close c 1 2 2=<a x0>");
        y.begin(0);
        check.steps(y, "00133", 0, 0, 0, 1, NONE);
        check.due("by the LETTER", Check.shownHeld(y, NONE, 0), "<b>");
        y.begin(0);
        check.steps(y, "0213333", 0, 1, 2, 1, 2, NONE, NONE);
        check.due("by the MARK", Check.shownHeld(y, NONE, 0), "<a<c>>");
    }

    private static void ending() {
        check.sentence("T1: END in STATE q: by the END RULE of q it writes what its EXPRESSION tells: OUT");
        TreeStream x = check.with("machine 2 2;open a 0 1 0;open b 0 0 0;close a 1 0 1=x0,<c>;close b 0 0 0=,;end 0=<a>;end 1=<b<b x1>x0>");
        x.begin(0);
        check.due("in STATE 0", x.finish(), 1);
        check.due("OUT", Check.shown(x, true), "<a>");
        x.begin(0);
        check.steps(x, "03", 1, 1);
        check.due("in STATE 1", x.finish(), 3);
        check.due("OUT", Check.shown(x, true), "<b<b<c>>>");
    }

    private static void lastOfEach() {
        check.sentence("T1: STATES 0 .. (1 to 6), REGISTERS 0 .. (1 to 3), MARK (0 to 5)");
        TreeStream x = check.with(LAST);
        x.begin(0);
        check.steps(x, "22233", 5, 5, 5, 5, 5);
        check.due("x2", x.held(NONE, 0, NONE), 0);
        check.due("y2<c>", Check.shownHeld(x, NONE, 1), "<c>");
        check.steps(x, "3", 5);
        check.due("finish", x.finish(), 1);

        check.sentence("T1: RULES, at most 24: the last one counts");
        StringBuilder text = new StringBuilder("machine 6 3;open a 0 0 4");
        for (int i = 0; i < 23; i++) {
            text.append(";close ").append("cba".charAt(i / 8)).append(" ").append(i % 8 / 2 % 4).append(" ").append(i % 8 % 2);
            text.append(" 0=<c>,,");
        }
        String last = text.substring(0, text.lastIndexOf(";")) + ";close a 0 4 5=<a>,x0<b>,<c<a>>";
        TreeStream y = new TreeStream();
        for (int i = 0; i < 4; i++) {
            check.due("24", Check.tell(y, 0, last), 24);
        }
        y.begin(0);
        check.steps(y, "03", 0, 5);
        check.due("REGISTER 0", Check.shownHeld(y, NONE, 0), "<a>");
        check.due("REGISTER 1", Check.shownHeld(y, NONE, 1), "<b>");
        check.due("REGISTER 2", Check.shownHeld(y, NONE, 2), "<c<a>>");
    }

    private static void refusing() {
        check.sentence("T1: REFUSED: there is no such RULE");
        TreeStream x = check.with("machine 2 1;open a 0 1 0;open b 1 0 1;close b 1 0 0=;close a 1 1 0=;end 1=", Samples.BARE);
        x.begin(0);
        check.due("OPEN of another LETTER", x.next(1), NONE);
        check.due("OPEN", x.next(0), 1);
        check.due("OPEN of another STATE", x.next(0), NONE);
        check.due("CLOSE of another LETTER or MARK", x.next(3), NONE);
        check.due("OPEN", x.next(1), 0);
        check.due("CLOSE of another STATE", x.next(3), NONE);
        x.begin(0);
        check.due("END of another STATE", x.finish(), NONE);
        x.begin(1);
        check.due("OPEN, no RULES", x.next(2), NONE);
        check.due("END, no RULES", x.finish(), NONE);
    }

    private static void holding() {
        check.sentence("T1: HELD: ELEMENTS in all REGISTERS and on THE STACK, behind an EVENT");
        TreeStream x = check.with("machine 1 3;open a 0 0 0;close a 0 0 0=y0<a>x0,y1<a><a>x1,y2<a><a><a>x2;end 0=x0");
        x.begin(0);
        check.due("OPEN", x.next(0), 0);
        check.due("none", x.count(7), 0);
        check.due("CLOSE", x.next(3), 0);
        check.due("in REGISTERS", x.count(7), 6);
        check.steps(x, "00", 0, 0);
        check.due("on THE STACK", x.count(7), 6);
        check.due("CLOSE", x.next(3), 0);
        check.due("in both", x.count(7), 12);
    }

    // ---- promise 11

    private static void begin() {
        check.sentence("P11: A READING by a MACHINE begins: its STATE");
        TreeStream x = check.with(NEST, Samples.COPY, Samples.BARE, LAST);
        for (int k = 0; k < 4; k++) {
            check.due("begin " + k, x.begin(k), 0);
            check.due("state", x.state(), 0);
            for (int what = 5; what <= 8; what++) {
                check.due("count " + what, x.count(what), 0);
            }
        }
        asItIsNow();
        insteadOfOne();
        noneSuchToBegin();
    }

    private static void asItIsNow() {
        check.sentence("P11: by a MACHINE (as it is now)");
        TreeStream x = check.with(Samples.COPY);
        x.begin(0);
        for (int i = 0; i < 12; i++) {
            boolean bare = i % 2 == 0;
            check.due("machine", Check.tell(x, i % 4, bare ? Samples.BARE : Samples.ONE), bare ? 0 : 3);
            check.due("a fault", Check.tell(x, i % 4, "machine 1 1;close b 0 0 0=<c>,"), -2);
        }
        check.due("as it was", x.next(2), 0);
        Check.give(x, "<b>");
        x.run(0);
        x.differ(0, 1, 2);
        x.safe(1, 1);
        check.steps(x, "133", 0, 0, 0);
        check.due("finish", x.finish(), 2);
        check.due("OUT", Check.shown(x, true), "<c<b>>");
        check.due("anew", x.begin(0), 0);
        check.due("as it is now", x.next(2), NONE);
    }

    private static void insteadOfOne() {
        check.sentence("P11: instead of one that was");
        TreeStream x = check.with(NEST, Samples.COPY);
        x.begin(0);
        check.steps(x, "013", 1, 2, 1);
        check.due("begin", x.begin(1), 0);
        for (int what = 5; what <= 8; what++) {
            check.due("count " + what, x.count(what), 0);
        }
        check.due("its STATE", x.state(), 0);
        check.due("its REGISTER", x.held(NONE, 0, NONE), 0);
        check.due("no second REGISTER", x.held(NONE, 1, NONE), NONE);
        check.due("no MARK", x.held(0, 0, NONE), NONE);
        check.due("CLOSE", x.next(3), -2);
        check.due("by this one", x.next(2), 0);
    }

    private static void noneSuchToBegin() {
        check.sentence("P11: NONE: there is none such (the one that was stays)");
        TreeStream x = check.with(NEST);
        check.due("none was", x.begin(1), NONE);
        check.due("none is", x.state(), NONE);
        x.begin(0);
        check.steps(x, "013", 1, 2, 1);
        for (int k : new int[] {-1, 1, 3, 4}) {
            check.due("begin " + k, x.begin(k), NONE);
        }
        for (int k : Check.STRANGE) {
            check.due("begin " + k, x.begin(k), NONE);
        }
        check.due("STATE", x.state(), 1);
        check.due("EVENTS", x.count(5), 3);
        check.due("MARKS", x.count(6), 1);
        check.due("REGISTER", Check.shownHeld(x, NONE, 0), "<c>");
    }

    // ---- promise 12

    private static void next() {
        check.sentence("P12: An EVENT comes: the STATE then");
        TreeStream x = check.with(NEST);
        x.begin(0);
        check.steps(x, "01313303", 1, 2, 1, 2, 1, 0, 1, 0);
        noneWasBegun();
        noSuchEvent();
        closeWithoutMark();
        openWithSixtyMarks();
        tooManyOpens();
        refusedEvent();
    }

    private static void noneWasBegun() {
        check.sentence("P12: NONE: none was begun (ahead of all else)");
        TreeStream x = check.with(Samples.COPY);
        for (int event = -1; event <= 4; event++) {
            check.due("next " + event, x.next(event), NONE);
        }
        x.begin(0);
        x.finish();
        for (int event = -1; event <= 4; event++) {
            check.due("behind finish, next " + event, x.next(event), NONE);
        }
        check.due("nothing came", x.count(5), 0);
    }

    private static void noSuchEvent() {
        check.sentence("P12: NONE: no such EVENT (all stays)");
        TreeStream x = check.with(Samples.COPY);
        x.begin(0);
        x.next(0);
        check.due("-1", x.next(-1), NONE);
        check.due("4", x.next(4), NONE);
        for (int event : Check.STRANGE) {
            check.due("next " + event, x.next(event), NONE);
        }
        check.due("EVENTS", x.count(5), 1);
        check.due("MARKS", x.count(6), 1);
        for (int i = 1; i < 60; i++) {
            x.next(0);
        }
        check.due("with 60 MARKS", x.next(4), NONE);
        check.due("with 60 MARKS", x.next(-1), NONE);
    }

    private static void closeWithoutMark() {
        check.sentence("P12: -2: CLOSE without a MARK (all stays, ahead of REFUSED)");
        TreeStream x = check.with(Samples.COPY, Samples.BARE);
        x.begin(1);
        check.due("no RULE either", x.next(3), -2);
        x.begin(0);
        check.due("at first", x.next(3), -2);
        check.steps(x, "1033", 0, 0, 0, 0);
        check.due("one more", x.next(3), -2);
        check.due("EVENTS", x.count(5), 4);
        check.due("REGISTER", Check.shownHeld(x, NONE, 0), "<b<a>>");
        check.due("it goes on", x.next(2), 0);
    }

    private static void openWithSixtyMarks() {
        check.sentence("P12: -2: OPEN with 60 MARKS (all stays, ahead of REFUSED)");
        TreeStream x = check.with(Samples.TURN);
        x.begin(0);
        for (int i = 0; i < 59; i++) {
            check.due("open", x.next(i % 2), 0);
        }
        check.due("REFUSED with 59", x.next(2), NONE);
        check.due("the 60th", x.next(1), 0);
        check.due("the 61st", x.next(0), -2);
        check.due("the 61st, no RULE either", x.next(2), -2);
        check.due("EVENTS", x.count(5), 60);
        check.due("MARKS", x.count(6), 60);
        check.due("the first MARK", x.held(59, 0, NONE), 0);
        check.due("CLOSE goes", x.next(3), 0);
        check.due("OPEN goes again", x.next(0), 0);
        check.due("with 60 again", x.next(0), -2);
        for (int i = 0; i < 60; i++) {
            check.due("close", x.next(3), 0);
        }
        check.due("finish", x.finish(), 61);
        check.due("deep", x.count(4), 60);
    }

    /** It takes more than the 512 calls for which answers are promised; they are as the sentence says, all the same. */
    private static void tooManyOpens() {
        check.sentence("P12: -2: a 401st OPEN (all stays, ahead of REFUSED)");
        TreeStream x = check.with(Samples.TURN);
        x.begin(0);
        for (int i = 0; i < 399; i++) {
            x.next(i % 2);
            x.next(3);
        }
        check.due("REFUSED", x.next(2), NONE);
        check.due("the 400th", x.next(1), 0);
        check.due("the 401st", x.next(0), -2);
        check.due("the 401st, no RULE either", x.next(2), -2);
        check.due("EVENTS", x.count(5), 799);
        check.due("CLOSE goes", x.next(3), 0);
        check.due("the 401st", x.next(0), -2);
        check.due("finish", x.finish(), 400);
        check.due("anew", x.begin(0), 0);
        check.due("the first", x.next(0), 0);
    }

    private static void refusedEvent() {
        check.sentence("P12: NONE: REFUSED (all stays)");
        TreeStream x = check.with(NEST);
        x.begin(0);
        check.steps(x, "01330", 1, 2, 1, 0, 1);
        check.due("OPEN", x.next(0), NONE);
        check.due("OPEN", x.next(2), NONE);
        check.due("OPEN", x.next(1), 2);
        check.due("OPEN", x.next(1), NONE);
        check.due("STATE", x.state(), 2);
        int[] due = {6, 2, 2, 2};
        for (int what = 5; what <= 8; what++) {
            check.due("count " + what, x.count(what), due[what - 5]);
        }
        check.due("what lies", Check.shownHeld(x, 1, 0), "<c>");
        TreeStream y = check.with("machine 2 1;open a 0 1 0;close a 0 0 1=;open b 1 0 1;close b 0 1 1=<b>");
        y.begin(0);
        check.steps(y, "0133", 1, 0, 1, NONE);
        check.due("CLOSE: STATE", y.state(), 1);
        check.due("CLOSE: EVENTS", y.count(5), 3);
        check.due("CLOSE: MARKS", y.count(6), 1);
        check.due("CLOSE: REGISTER", Check.shownHeld(y, NONE, 0), "<b>");
    }

    // ---- promise 13

    private static void state() {
        check.sentence("P13: STATE of the READING");
        TreeStream x = check.with(LAST);
        x.begin(0);
        check.due("at first", x.state(), 0);
        x.next(2);
        check.due("the last one", x.state(), 5);
        x.next(1);
        check.due("behind REFUSED", x.state(), 5);

        check.sentence("P13: NONE: none was begun");
        TreeStream y = check.with(Samples.COPY);
        check.due("state", y.state(), NONE);
        y.begin(0);
        y.finish();
        check.due("behind finish", y.state(), NONE);
        Check.give(y, "<a>");
        y.run(0);
        y.differ(0, 0, 1);
        check.due("behind run", y.state(), NONE);
    }

    // ---- promise 14

    private static void held() {
        check.sentence("P14: What a REGISTER of the READING holds: how many EVENTS (i NONE)");
        TreeStream x = check.with(Samples.GROW);
        x.begin(0);
        check.due("none", x.held(NONE, 0, NONE), 0);
        for (int i = 0; i < 240; i++) {
            x.next(0);
            x.next(3);
        }
        check.due("many", x.held(NONE, 0, NONE), 2880);
        check.due("the last of many", x.held(NONE, 0, 2879), 3);
        check.due("behind the last of many", x.held(NONE, 0, 2880), NONE);
        theOneAsked();
        withTheMark();
        noneSuchHeld();
    }

    private static void theOneAsked() {
        check.sentence("P14: or the i-th; NONE: not so many");
        TreeStream x = check.with("machine 1 1;open a 0 0 0;close a 0 0 0=y0<b<c>>x0;end 0=x0");
        x.begin(0);
        check.due("of none", x.held(NONE, 0, 0), NONE);
        check.steps(x, "03", 0, 0);
        int[] due = {1, 2, 3, 3};
        for (int i = 0; i < 4; i++) {
            check.due("the " + i, x.held(NONE, 0, i), due[i]);
        }
        check.due("behind the last", x.held(NONE, 0, 4), NONE);
        check.due("below NONE", x.held(NONE, 0, -2), NONE);
        check.steps(x, "0", 0);
        check.due("lying, the last", x.held(0, 0, 3), 3);
        check.due("lying, behind the last", x.held(0, 0, 4), NONE);
        for (int i : Check.STRANGE) {
            check.due("the " + i, x.held(NONE, 0, i), NONE);
            check.due("lying, the " + i, x.held(0, 0, i), NONE);
        }
    }

    private static void withTheMark() {
        check.sentence("P14: lying with the d-th MARK from the last (d 0 on), or (NONE) now");
        TreeStream x = check.with("machine 1 1;open a 0 0 0;open b 0 0 0;open c 0 0 0;"
            + "close a 0 0 0=y0<a>;close b 0 0 0=y0<b>;close c 0 0 0=y0<c>;end 0=x0");
        x.begin(0);
        check.steps(x, "030131302303", 0, 0, 0, 0, 0, 0, 0, 0, 0, 0, 0, 0);
        check.due("MARKS", x.count(6), 2);
        check.due("now", Check.shownHeld(x, NONE, 0), "<c><a>");
        check.due("the last", Check.shownHeld(x, 0, 0), "<b><b>");
        check.due("the one ahead of it", Check.shownHeld(x, 1, 0), "<a>");
        check.due("no third", x.held(2, 0, NONE), NONE);
        check.steps(x, "3", 0);
        check.due("now", Check.shownHeld(x, NONE, 0), "<b><b><a>");
        check.due("the last", Check.shownHeld(x, 0, 0), "<a>");
        check.due("no second", x.held(1, 0, NONE), NONE);
        for (int i = 1; i < 60; i++) {
            x.next(0);
        }
        check.due("with 60 MARKS, the first", Check.shownHeld(x, 59, 0), "<a>");
        check.due("the second", Check.shownHeld(x, 58, 0), "<b><b><a>");
        check.due("no more", x.held(60, 0, NONE), NONE);
    }

    private static void noneSuchHeld() {
        check.sentence("P14: NONE: there are none such");
        TreeStream x = check.with(NEST, LAST);
        x.begin(0);
        check.due("no MARK at first", x.held(0, 0, NONE), NONE);
        check.steps(x, "013", 1, 2, 1);
        for (int i = NONE; i <= 0; i++) {
            check.due("REGISTER -1", x.held(NONE, -1, i), NONE);
            check.due("REGISTER 2 of 2", x.held(NONE, 2, i), NONE);
            check.due("lying, REGISTER 2 of 2", x.held(0, 2, i), NONE);
            check.due("MARK -2", x.held(-2, 0, i), NONE);
            check.due("MARK 1 of 1", x.held(1, 0, i), NONE);
        }
        for (int strange : Check.STRANGE) {
            check.due("REGISTER " + strange, x.held(NONE, strange, NONE), NONE);
            check.due("MARK " + strange, x.held(strange, 0, NONE), NONE);
        }
        x.begin(1);
        check.due("REGISTER 2 of 3", x.held(NONE, 2, NONE), 0);
        check.due("REGISTER 3 of 3", x.held(NONE, 3, NONE), NONE);

        check.sentence("P14: NONE: none was begun");
        TreeStream y = check.with("machine 1 1;end 0=");
        check.due("now", y.held(NONE, 0, NONE), NONE);
        check.due("lying", y.held(0, 0, NONE), NONE);
        y.begin(0);
        check.due("begun", y.held(NONE, 0, NONE), 0);
        y.finish();
        check.due("behind finish", y.held(NONE, 0, NONE), NONE);
    }

    // ---- promise 15

    private static void finish() {
        check.sentence("P15: END of the READING (there is none then): how many ELEMENTS OUT has");
        TreeStream x = check.with(Samples.COPY, NEST, Samples.GROW);
        x.begin(0);
        check.due("of none", x.finish(), 0);
        check.due("OUT", x.count(3), 0);
        x.begin(1);
        check.steps(x, "01303", 1, 2, 1, NONE, 0);
        check.due("finish", x.finish(), 3);
        check.due("OUT", Check.shown(x, true), "<a><b<c>>");
        check.due("there is none then", x.state(), NONE);
        check.due("there is none then", x.next(0), NONE);
        x.begin(2);
        for (int i = 0; i < 150; i++) {
            x.next(0);
            x.next(3);
        }
        check.due("much", x.finish(), 906);
        check.due("the last", x.event(1811, true), 3);
        check.due("behind the last", x.event(1812, true), NONE);
        notFinished();
    }

    private static void notFinished() {
        check.sentence("P15: NONE: none was begun (OUT stays)");
        TreeStream x = check.with("machine 2 1;open a 0 0 0;close a 0 0 1=<b>;open c 1 1 1;close c 1 1 0=y0<c>;end 0=x0<a>");
        check.due("finish", x.finish(), NONE);
        x.begin(0);
        check.due("finish", x.finish(), 1);
        check.due("twice", x.finish(), NONE);
        check.due("OUT stays", Check.shown(x, true), "<a>");

        check.sentence("P15: NONE: THE STACK has MARKS (all stays)");
        x.begin(0);
        check.steps(x, "0", 0);
        check.due("one, though there is a RULE", x.finish(), NONE);
        check.due("STATE", x.state(), 0);
        check.due("MARKS", x.count(6), 1);
        check.due("OUT", Check.shown(x, true), "<a>");

        check.sentence("P15: NONE: REFUSED (all stays)");
        check.steps(x, "3", 1);
        check.due("no RULE", x.finish(), NONE);
        check.due("STATE", x.state(), 1);
        check.due("EVENTS", x.count(5), 2);
        check.due("REGISTER", Check.shownHeld(x, NONE, 0), "<b>");
        check.due("OUT", Check.shown(x, true), "<a>");
        check.steps(x, "23", 1, 0);
        check.due("it goes on", x.finish(), 3);
        check.due("OUT", Check.shown(x, true), "<b><c><a>");
    }
}
