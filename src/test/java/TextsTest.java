/** Promises 1 to 10, sentence by sentence: texts, and what can be asked about what they told. */
public final class TextsTest {
    private static final int NONE = TreeStream.NONE;
    private static final String BLANKS = " ".repeat(20);

    private static Check check;

    public static void main(String[] args) {
        check = new Check();
        newObject();
        feed();
        end();
        machine();
        document();
        fault();
        of();
        count();
        event();
        take();
        check.ends();
    }

    // ---- promise 1

    private static void newObject() {
        check.sentence("NONE = -1: There is none.");
        check.due("NONE", NONE, -1);
        noMachines();
        noElements();
        noOut();
    }

    private static void noMachines() {
        check.sentence("P1: No MACHINES");
        TreeStream x = new TreeStream();
        check.due("count 0", x.count(0), 0);
        for (int k = 0; k < 4; k++) {
            check.due("of", x.of(k, 0), NONE);
            check.due("begin", x.begin(k), NONE);
            check.due("run", x.run(k), NONE);
        }
    }

    private static void noElements() {
        check.sentence("P1: a DOCUMENT of no ELEMENTS");
        TreeStream x = new TreeStream();
        check.due("count 1", x.count(1), 0);
        check.due("count 2", x.count(2), 0);
        check.due("event", x.event(0, false), NONE);
        Check.tell(x, 0, "machine 1 1;end 0=<b>");
        check.due("refused", x.refused(0), NONE);
        check.due("run", x.run(0), 1);
        Check.tell(x, 1, Samples.BARE);
        check.due("refused at its END", x.refused(1), 0);
    }

    private static void noOut() {
        check.sentence("P1: OUT of none");
        TreeStream x = new TreeStream();
        check.due("count 3", x.count(3), 0);
        check.due("count 4", x.count(4), 0);
        check.due("event", x.event(0, true), NONE);
        check.due("document", Check.give(x, "<a>"), 1);
        check.due("take", x.take(), 0);
        check.due("no document", x.count(1), 0);
    }

    // ---- promise 2

    private static void feed() {
        twentyBytes();
        highestFirst();
        howManyItHas();
        moreThanSixHundred();
    }

    private static void twentyBytes() {
        check.sentence("P2: Twenty bytes come behind the TAPE");
        TreeStream x = new TreeStream();
        Check.feedTwenty(x, "      machine 1 1;op");
        Check.feedTwenty(x, "en a 0 0 0;end 0=<a>");
        Check.feedTwenty(x, "<b<c>>              ");
        check.due("a word in two parts", x.machine(0), 2);
        check.due("all ELEMENTS", x.of(0, 5), 3);
        Check.feedTwenty(x, BLANKS);
        Check.feedTwenty(x, " ".repeat(19) + ">");
        check.due("the last one counts", x.document(), -2);
        check.due("at the fortieth", x.fault(), 1 + 8 * 39);
    }

    private static void highestFirst() {
        check.sentence("P2: of each number the highest first");
        TreeStream x = new TreeStream();
        x.feed(0x3c613e3c, 0x623c633e, 0x3e3c613c, 0x623e3e20, 0x20203c63);
        x.feed(0x3e202020, 0x20202020, 0x20202020, 0x20202020, 0x20202020);
        check.due("document", x.document(), 6);
        check.due("in order", Check.shown(x, false), "<a><b<c>><a<b>><c>");
        x.feed(0x20ffffff, -1, Integer.MIN_VALUE, 0, Integer.MAX_VALUE);
        check.due("bytes above 127", x.document(), -2);
        check.due("at the second", x.fault(), 1 + 8);
        x.feed(0x20202020, 0x20202020, 0x20202020, 0x20202020, 0x20202080);
        check.due("the lowest byte of the last", x.document(), -2);
        check.due("at the twentieth", x.fault(), 1 + 8 * 19);
    }

    private static void howManyItHas() {
        check.sentence("P2: how many it has");
        TreeStream x = new TreeStream();
        check.due("of none", Check.feedTwenty(x, BLANKS), 20);
        check.due("of 20", Check.feedTwenty(x, BLANKS), 40);
        x.end(7);
        check.due("of 7", Check.feedTwenty(x, BLANKS), 27);
        check.due("count 9", x.count(9), 27);
    }

    private static TreeStream fullTape() {
        TreeStream x = new TreeStream();
        for (int i = 1; i <= 30; i++) {
            check.due("feed " + i, Check.feedTwenty(x, BLANKS), 20 * i);
        }
        return x;
    }

    private static void moreThanSixHundred() {
        check.sentence("P2: NONE, and none come: more than 600");
        TreeStream x = fullTape();
        check.due("of 600", Check.feedTwenty(x, "<".repeat(20)), NONE);
        check.due("none come", x.count(9), 600);
        check.due("nothing was written over", x.document(), 0);
        x = fullTape();
        x.end(581);
        check.due("of 581", Check.feedTwenty(x, "<".repeat(20)), NONE);
        check.due("none come", x.count(9), 581);
        x.end(580);
        check.due("of 580", Check.feedTwenty(x, "<a>".repeat(6) + "  "), 600);
        check.due("the last twenty count", x.document(), 6);
    }

    // ---- promise 3

    private static void end() {
        firstBytesAlone();
        notSoMany();
    }

    private static void firstBytesAlone() {
        check.sentence("P3: The TAPE has its first n bytes alone: true");
        TreeStream x = new TreeStream();
        check.due("0 of none", x.end(0), true);
        Check.feedTwenty(x, "<a><b><c>           ");
        check.due("all", x.end(20), true);
        check.due("as many", x.count(9), 20);
        check.due("6", x.end(6), true);
        check.due("6 alone", x.count(9), 6);
        Check.feedTwenty(x, "<a<a>>              ");
        check.due("what was behind is gone", x.document(), 4);
        check.due("those ahead stay", Check.shown(x, false), "<a><b><a<a>>");
        Check.feedTwenty(x, "<".repeat(20));
        check.due("0", x.end(0), true);
        check.due("none", x.count(9), 0);
        check.due("of none", x.document(), 0);
    }

    private static void notSoMany() {
        check.sentence("P3: false: it has not so many");
        TreeStream x = new TreeStream();
        check.due("1 of none", x.end(1), false);
        Check.feedTwenty(x, BLANKS);
        check.due("21 of 20", x.end(21), false);
        check.due("600 of 20", x.end(600), false);
        check.due("below none", x.end(-1), false);
        for (int n : Check.STRANGE) {
            check.due("end " + n, x.end(n), false);
        }
        check.due("they stay", x.count(9), 20);
        x.end(3);
        check.due("what is gone stays so", x.end(4), false);
        x = fullTape();
        check.due("601 of 600", x.end(601), false);
        check.due("600 of 600", x.end(600), true);
    }

    // ---- promise 4

    private static void machine() {
        machineEmptiesTheTape();
        eachMachine();
        insteadOfOne();
        howManyRules();
        machineFault();
        noSuchMachine();
    }

    private static void machineEmptiesTheTape() {
        check.sentence("P4: The TAPE (empty then)");
        TreeStream x = new TreeStream();
        check.due("machine", Check.tell(x, 0, Samples.COPY), 7);
        check.due("empty", x.count(9), 0);
        check.due("a fault", Check.tell(x, 0, "<a>"), -2);
        check.due("empty", x.count(9), 0);
        check.due("of the empty one", x.machine(0), -2);
        check.due("at its end", x.fault(), 1);
    }

    private static void eachMachine() {
        check.sentence("P4: is MACHINE k (0 to 3)");
        TreeStream x = new TreeStream();
        for (int k = 0; k < 4; k++) {
            check.due("count", x.count(0), k);
            check.due("machine " + k, Check.tell(x, k, "machine " + (k + 2) + " 1;end " + k + "="), 1);
        }
        for (int k = 0; k < 4; k++) {
            check.due("of " + k, x.of(k, 0), k + 2);
        }
        check.due("count", x.count(0), 4);
    }

    private static void insteadOfOne() {
        check.sentence("P4: instead of one that was");
        TreeStream x = check.with(Samples.COPY, Samples.TURN);
        check.due("machine", Check.tell(x, 0, "machine 2 3;open a 1 1 1"), 1);
        int[] due = {2, 3, 1, 0, 0, 0};
        for (int what = 0; what < due.length; what++) {
            check.due("of 0, " + what, x.of(0, what), due[what]);
        }
        check.due("no RULE is left", x.refused(0), 0);
        check.due("bound", x.bound(0, 1000), 0);
        check.due("many", x.many(0, 1), 0);
        check.due("the other one stays", x.of(1, 2), 2);
        check.due("count", x.count(0), 2);
        insteadOfMany();
    }

    /** Nothing is left of those that were, however often that goes. */
    private static void insteadOfMany() {
        TreeStream x = new TreeStream();
        for (int i = 0; i < 16; i++) {
            int k = i % 4;
            check.due("machine", Check.tell(x, k, i % 3 == 0 ? Samples.GROW : "machine 1 1;end 0=<b<c>>x0"), i % 3 == 0 ? 3 : 1);
            check.due("of 5", x.of(k, 5), i % 3 == 0 ? 6 : 2);
            check.due("bound", x.bound(k, 1), i % 3 == 0 ? 12 : 2);
            check.due("many", x.many(k, 1), i % 3 == 0 ? 1 : 0);
            check.due("run", x.run(k), i % 3 == 0 ? 6 : 2);
            check.due("OUT", Check.shown(x, true), i % 3 == 0 ? Check.nested("a", 6) : "<b<c>>");
        }
        insteadOfLarge();
    }

    private static void insteadOfLarge() {
        StringBuilder text = new StringBuilder("machine 2 1;open a 0 1 5");
        for (int i = 0; i < 14; i++) {
            text.append(";close ").append("cba".charAt(i / 6)).append(" 1 ").append(i % 6).append(" 0=<a><a><a><a><a><a>x0y0");
        }
        String large = text.substring(0, text.lastIndexOf(";")) + ";close a 1 5 0=y0<b<c><a><c>><b>;end 0=x0<c>";
        TreeStream x = new TreeStream();
        for (int i = 0; i < 8; i++) {
            check.due("machine", Check.tell(x, 0, large), 16);
        }
        Check.give(x, "<a><a>");
        check.due("run", x.run(0), 11);
        check.due("OUT", Check.shown(x, true), "<b<c><a><c>><b><b<c><a><c>><b><c>");
    }

    private static void howManyRules() {
        check.sentence("P4: how many RULES");
        TreeStream x = new TreeStream();
        check.due("none", Check.tell(x, 0, Samples.BARE), 0);
        check.due("one", Check.tell(x, 0, "machine 1 1;end 0="), 1);
        check.due("24", Check.tell(x, 0, Samples.full()), 24);
    }

    private static void machineFault() {
        check.sentence("P4: -2: a FAULT (k stays as it is)");
        TreeStream x = check.with(Samples.COPY);
        check.due("at its end", Check.tell(x, 0, Samples.TURN + ";"), -2);
        check.due("at its begin", Check.tell(x, 0, ""), -2);
        check.due("RULES stay", x.of(0, 2), 3);
        check.due("ELEMENTS stay", x.of(0, 5), 1);
        Check.give(x, "<a><c>");
        check.due("it works", x.run(0), 2);
        check.due("as it was", Check.shown(x, true), "<a><c>");
        check.due("where there is none", Check.tell(x, 1, "machine 1 1;end"), -2);
        check.due("there is none", x.of(1, 0), NONE);
        check.due("count", x.count(0), 1);
    }

    private static void noSuchMachine() {
        check.sentence("P4: NONE: no such k (the TAPE stays)");
        TreeStream x = new TreeStream();
        Check.feed(x, "machine 7");
        check.due("4, with a fault", x.machine(4), NONE);
        check.due("fault", x.fault(), 0);
        x.end(0);
        Check.feed(x, Samples.COPY);
        check.due("4", x.machine(4), NONE);
        check.due("-1", x.machine(-1), NONE);
        for (int k : Check.STRANGE) {
            check.due("machine " + k, x.machine(k), NONE);
        }
        check.due("the TAPE stays", x.count(9), Samples.COPY.length());
        check.due("no MACHINE", x.count(0), 0);
        check.due("and can be read", x.machine(3), 7);
    }

    // ---- promise 5

    private static void document() {
        check.sentence("P5: The TAPE (empty then)");
        TreeStream x = new TreeStream();
        check.due("document", Check.give(x, "<a>"), 1);
        check.due("empty", x.count(9), 0);
        check.due("of the empty one", x.document(), 0);
        check.due("a fault", Check.give(x, "a"), -2);
        check.due("empty", x.count(9), 0);

        check.sentence("P5: is THE DOCUMENT: how many ELEMENTS");
        check.due("none", Check.give(x, ""), 0);
        check.due("blanks alone", Check.give(x, " \n "), 0);
        check.due("one", Check.give(x, "<c>"), 1);
        check.due("40", Check.give(x, "<a>".repeat(40)), 40);
        check.due("40 within", Check.give(x, Check.nested("b", 40)), 40);
        check.due("fewer again", Check.give(x, "<b<a>>"), 2);
        check.due("those", Check.shown(x, false), "<b<a>>");

        check.sentence("P5: -2: a FAULT (it stays)");
        check.due("at its end", Check.give(x, "<a><c"), -2);
        check.due("at the 41st", Check.give(x, "<a>".repeat(41)), -2);
        check.due("it stays", Check.shown(x, false), "<b<a>>");
        check.due("of as many", x.count(1), 2);
    }

    // ---- promise 6

    private static void fault() {
        check.sentence("P6: 0 ahead of any");
        TreeStream x = new TreeStream();
        check.due("fault", x.fault(), 0);
        Check.feed(x, "machine");
        check.due("not read yet", x.fault(), 0);

        check.sentence("P6: FAULT of the latest machine(), document() that read the TAPE");
        check.due("machine", x.machine(0), -2);
        check.due("of a machine", x.fault(), 1 + 8 * 7);
        check.due("document", Check.give(x, "<a"), -2);
        check.due("of a document", x.fault(), 1 + 8 * 2);
        check.due("machine", Check.tell(x, 3, "machine 1 4"), -2);
        check.due("of a machine", x.fault(), 2 + 8 * 10);
        Check.feed(x, "<");
        x.run(0);
        x.take();
        check.due("other calls leave it", x.fault(), 2 + 8 * 10);
        check.due("one that didn't read", x.machine(-1), NONE);
        check.due("leaves it", x.fault(), 2 + 8 * 10);

        check.sentence("P6: 0 without");
        x.end(0);
        check.due("document", x.document(), 0);
        check.due("fault", x.fault(), 0);
        check.due("document", Check.give(x, ">"), -2);
        check.due("machine", Check.tell(x, 0, Samples.BARE), 0);
        check.due("fault", x.fault(), 0);
    }

    // ---- promise 7

    private static void of() {
        ofEach();
        mostOfARule();
        noneSuchOf();
    }

    private static void allOf(String text, int... due) {
        TreeStream x = check.with(text);
        for (int what = 0; what < due.length; what++) {
            check.due("of " + what + ", " + text, x.of(0, what), due[what]);
        }
    }

    private static void ofEach() {
        check.sentence("P7: what 0: STATES, 1: REGISTERS, 2: OPEN RULES, 3: CLOSE RULES, 4: END RULES");
        allOf("machine 1 1", 1, 1, 0, 0, 0);
        allOf("machine 6 3", 6, 3, 0, 0, 0);
        allOf(Samples.full(), 6, 1, 18, 0, 6);
        allOf("machine 2 1;open a 0 1 0;close b 0 5 1=;close b 1 5 1=;close c 0 0 0=;end 0=;end 1=", 2, 1, 1, 3, 2);
    }

    private static void mostOfARule() {
        check.sentence("P7: 5: the most ELEMENTS that a RULE has of its own");
        allOf("machine 1 1", 1, 1, 0, 0, 0, 0);
        allOf(Samples.full(), 6, 1, 18, 0, 6, 0);
        allOf("machine 1 1;close a 0 0 0=<a><a>;close b 0 0 0=<a>;end 0=", 1, 1, 0, 2, 1, 2);
        allOf("machine 2 1;close a 0 0 0=<a>;end 0=<a<b><c>>;end 1=<a>", 2, 1, 0, 1, 2, 3);
        allOf("machine 1 3;close a 0 0 0=<a><b>,<a<c>>,<b x0>y0<c>;end 0=<a><a><a>", 1, 3, 0, 1, 1, 6);
        allOf("machine 1 1;end 0=<a<a<a<a<a<a x0>>>>>>", 1, 1, 0, 0, 1, 6);
    }

    private static void noneSuchOf() {
        TreeStream x = check.with(Samples.COPY);
        check.sentence("P7: NONE: there is none such");
        for (int k : new int[] {-1, 1, 3, 4}) {
            for (int what = 0; what < 6; what++) {
                check.due("of " + k, x.of(k, what), NONE);
            }
        }
        for (int k : Check.STRANGE) {
            check.due("of " + k, x.of(k, 0), NONE);
        }
        check.sentence("P7: NONE: another what");
        check.due("-1", x.of(0, -1), NONE);
        check.due("6", x.of(0, 6), NONE);
        for (int what : Check.STRANGE) {
            check.due("of 0, " + what, x.of(0, what), NONE);
        }
    }

    // ---- promise 8

    private static void count() {
        countMachines();
        countDocument();
        countOut();
        countReading();
        countWithoutReading();
        countTape();
        check.sentence("P8: NONE for another what");
        TreeStream x = check.with(Samples.COPY);
        check.due("-1", x.count(-1), NONE);
        check.due("10", x.count(10), NONE);
        for (int what : Check.STRANGE) {
            check.due("count " + what, x.count(what), NONE);
        }
    }

    private static void countMachines() {
        check.sentence("P8: what 0: MACHINES");
        TreeStream x = new TreeStream();
        int[] slots = {3, 0, 3, 2, 1, 0};
        int[] due = {1, 2, 2, 3, 4, 4};
        for (int i = 0; i < slots.length; i++) {
            Check.tell(x, slots[i], Samples.BARE);
            check.due("count behind " + i, x.count(0), due[i]);
        }
    }

    private static void countDocument() {
        check.sentence("P8: 1: ELEMENTS of THE DOCUMENT, 2: how deep it goes (0: none)");
        String[] texts = {"", "<a>", "<a><b>", "<a<b>>", "<a<b><c<a>>><b<c>>", "<c>".repeat(40), Check.nested("a", 40)};
        int[] many = {0, 1, 2, 2, 6, 40, 40};
        int[] deep = {0, 1, 1, 2, 3, 1, 40};
        for (int i = 0; i < texts.length; i++) {
            TreeStream x = new TreeStream();
            Check.give(x, texts[i]);
            check.due("ELEMENTS of " + texts[i], x.count(1), many[i]);
            check.due("deep " + texts[i], x.count(2), deep[i]);
        }
    }

    private static void countOut() {
        check.sentence("P8: 3: ELEMENTS of OUT, 4: how deep it goes");
        TreeStream x = check.with(Samples.COPY, Samples.MUTE, Samples.GROW);
        Check.give(x, "<a<a><a<a>>>");
        check.due("run", x.run(0), 4);
        check.due("ELEMENTS", x.count(3), 4);
        check.due("deep", x.count(4), 3);
        check.due("run", x.run(1), 0);
        check.due("of none", x.count(3), 0);
        check.due("no depth", x.count(4), 0);
        Check.give(x, Check.nested("a", 40));
        check.due("through", x.through(2, 2), 1482);
        check.due("ELEMENTS", x.count(3), 1482);
        check.due("deep", x.count(4), 1482);
    }

    private static void countReading() {
        check.sentence("P8: 5: EVENTS of the READING that came, 6: MARKS on THE STACK");
        TreeStream x = check.with("machine 1 1;open a 0 0 0;open b 0 0 1;close a 0 0 0=y0<b><c x0>;close b 0 1 0=;end 0=x0");
        x.begin(0);
        check.due("none came", x.count(5), 0);
        check.due("no MARK", x.count(6), 0);
        check.steps(x, "0030", 0, 0, 0, 0);
        check.due("four came", x.count(5), 4);
        check.due("two MARKS", x.count(6), 2);
        check.due("REFUSED", x.next(2), NONE);
        check.due("what is REFUSED doesn't come", x.count(5), 4);

        check.sentence("P8: 7: HELD, 8: the most that was HELD behind an EVENT of it");
        check.due("on THE STACK", x.count(7), 2);
        check.due("most", x.count(8), 2);
        check.steps(x, "331", 0, 0, 0);
        check.due("held", x.count(7), 6);
        check.due("most", x.count(8), 6);
        check.due("gone", x.next(3), 0);
        check.due("held", x.count(7), 0);
        check.due("the most stays", x.count(8), 6);

        check.sentence("P8: 8: 0 ahead of any");
        x.begin(0);
        check.due("most", x.count(8), 0);
        check.due("held", x.count(7), 0);
    }

    private static void countWithoutReading() {
        check.sentence("P8: 5 to 8 without a READING: 0");
        TreeStream x = check.with(Samples.COPY);
        for (int what = 5; what <= 8; what++) {
            check.due("none was begun, " + what, x.count(what), 0);
        }
        x.begin(0);
        check.steps(x, "0303", 0, 0, 0, 0);
        check.due("most", x.count(8), 2);
        check.due("finish", x.finish(), 2);
        for (int what = 5; what <= 8; what++) {
            check.due("there is none then, " + what, x.count(what), 0);
        }
        check.due("begin", x.begin(4), NONE);
        check.due("nothing began", x.count(8), 0);
    }

    private static void countTape() {
        check.sentence("P8: 9: bytes of the TAPE");
        TreeStream x = new TreeStream();
        check.due("none", x.count(9), 0);
        Check.feedTwenty(x, BLANKS);
        check.due("20", x.count(9), 20);
        x.end(1);
        check.due("1", x.count(9), 1);
        check.due("600", fullTape().count(9), 600);
    }

    // ---- promise 9

    private static void event() {
        check.sentence("T1: EVENTS in order: OPEN with its LETTER (told as 0, 1, 2), those within, CLOSE (told as 3)");
        TreeStream w = new TreeStream();
        Check.give(w, "<c<b><a<b>>><a>");
        int[] due = {2, 1, 3, 0, 1, 3, 3, 3, 0, 3};
        for (int i = 0; i < due.length; i++) {
            check.due("event " + i, w.event(i, false), due[i]);
        }
        TreeStream x = check.with("machine 1 1;open a 0 0 0;open b 0 0 0;close a 0 0 0=y0<c><b x0>;close b 0 0 0=;end 0=x0<a>");
        Check.give(x, "<b><a>");
        x.run(0);
        check.sentence("P9: The i-th EVENT of THE DOCUMENT, or (out) of OUT");
        check.due("THE DOCUMENT", Check.shown(x, false), "<b><a>");
        check.due("OUT", Check.shown(x, true), "<c><b><a>");
        int[] given = {1, 3, 0, 3};
        int[] out = {2, 3, 1, 3, 0, 3};
        for (int i = 0; i < given.length; i++) {
            check.due("event " + i, x.event(i, false), given[i]);
        }
        for (int i = 0; i < out.length; i++) {
            check.due("of OUT " + i, x.event(i, true), out[i]);
        }
        check.sentence("P9: NONE: not so many");
        check.due("behind the last", x.event(4, false), NONE);
        check.due("behind the last of OUT", x.event(6, true), NONE);
        check.due("below the first", x.event(-1, false), NONE);
        check.due("below the first of OUT", x.event(-1, true), NONE);
        for (int i : Check.STRANGE) {
            check.due("event " + i, x.event(i, false), NONE);
            check.due("event of OUT " + i, x.event(i, true), NONE);
        }
        Check.give(x, "<a>");
        check.due("of one that was longer", x.event(2, false), NONE);
        x.begin(0);
        x.finish();
        check.due("of one that was longer", x.event(2, true), NONE);
    }

    // ---- promise 10

    private static void take() {
        TreeStream x = check.with(Samples.COPY, Samples.GROW, "machine 1 1;open a 0 0 0;close a 0 0 0=y0<a x0>;end 0=<b>x0");
        check.sentence("P10: OUT is THE DOCUMENT, too, from now on: how many ELEMENTS");
        Check.give(x, "<a<b>><c>");
        check.due("run", x.run(0), 3);
        Check.give(x, "<a>");
        check.due("not yet", x.count(1), 1);
        check.due("take", x.take(), 3);
        check.due("THE DOCUMENT", Check.shown(x, false), "<a<b>><c>");
        check.due("OUT, too", Check.shown(x, true), "<a<b>><c>");
        Check.give(x, "");
        check.due("OUT stays", x.count(3), 3);
        check.due("run", x.run(0), 0);
        check.due("of none", x.take(), 0);
        Check.give(x, "<a>".repeat(40));
        check.due("run", x.run(0), 40);
        Check.give(x, "<c>");
        check.due("40", x.take(), 40);
        check.due("all of them", Check.shown(x, false), "<a>".repeat(40));

        check.sentence("P10: NONE: more than 40 (it stays)");
        check.due("run", x.run(2), 41);
        Check.give(x, "<c<b>>");
        check.due("41", x.take(), NONE);
        check.due("it stays", Check.shown(x, false), "<c<b>>");
        check.due("OUT stays", x.count(3), 41);
    }
}
