import java.util.ArrayList;
import java.util.HashSet;
import java.util.List;
import java.util.Random;
import java.util.Set;

/** FAULTS of texts: by hand, and against a second reader of texts on texts that were bent at random. */
public final class FaultsTest {
    private static Check check;

    public static void main(String[] args) {
        int rounds = args.length > 0 ? Integer.parseInt(args[0]) : 3000;
        int seed = args.length > 1 ? Integer.parseInt(args[1]) : 0;
        check = new Check();
        tokens();
        longTexts();
        documents();
        machines();
        expressions();
        places();
        unfit();
        outside();
        again();
        twice();
        tooMany();
        ofOnePlace();
        if (rounds > 0) {
            check.sentence("T2, all of it: texts that were bent at random");
            bent(rounds, seed);
        }
        check.ends();
    }

    /** The FAULT is where the text has a | (which is taken away). */
    private static void machine(String marked, int kind) {
        int fault = Check.machineFault(new TreeStream(), marked.replace("|", ""));
        check.due("fault of " + marked, fault, kind + 8 * marked.indexOf('|'));
    }

    private static void document(String marked, int kind) {
        int fault = Check.documentFault(new TreeStream(), marked.replace("|", ""));
        check.due("fault of " + marked, fault, kind + 8 * marked.indexOf('|'));
    }

    private static void fine(String text) {
        check.due("fault of " + text, Check.machineFault(new TreeStream(), text), 0);
    }

    private static void fineDocument(String text) {
        check.due("fault of " + text, Check.documentFault(new TreeStream(), text), 0);
    }

    // ---- texts

    private static void tokens() {
        check.sentence("T2: blanks (32, 10) between them or not");
        fine(" \nmachine1\n1 ; end0=< a >\n\n");
        fine("machine1 1;open a 0 0 0;close a 0 0 0=x0<a><b>y0;end 0=x0<c>");
        fineDocument(" < a >\n<b<c>>");
        fineDocument("<a><b<c>>");
        eachByte();

        check.sentence("T2: letters a .. z and digits, each as long a row as can be");
        machine("|machinea 1 1", 1);
        machine("machine|11", 1);
        machine("machine 1 1;|opena 0 0 0", 1);
        machine("machine 1 1;open |aa 0 0 0", 1);
        machine("machine 1 1;open a |00 0 0", 1);
        machine("machine 1 1;end 0=|xx0", 1);
        machine("machine 1 1;end 0=<|ax0>", 1);
        fine("machine 1 1;end 0=<a x0>");
        fine("machine 1 1;open a0 0 0");
        document("<|aa>", 1);
        document("<a |a>", 1);
        for (char b = 'a'; b <= 'z'; b++) {
            document("<|a" + b + ">", 1);
            machine("|machine" + b + " 1 1", 1);
        }
        for (char b = '0'; b <= '9'; b++) {
            machine("machine |1" + b + " 1", 1);
            machine("machine |" + b + "1 1", 1);
        }

        check.sentence("T2: ; = , < > for themselves");
        fine("machine 1 3;close a 0 0 0=,,;end 0=<a<b>><c>");
        document("<a>|>>", 1);
    }

    /** Each byte between two TOKENS: 32 and 10 alone can stand there. */
    private static void eachByte() {
        for (char b = 0; b < 256; b++) {
            boolean blank = b == 32 || b == 10;
            int row = Check.documentFault(new TreeStream(), "<a>" + b + "<b>");
            check.due("between ELEMENTS, byte " + (int) b, row, blank ? 0 : b == '<' ? 1 + 8 * 4 : 1 + 8 * 3);
            int rule = Check.machineFault(new TreeStream(), "machine 1 1" + b + ";end 0=");
            int place = b >= '0' && b <= '9' ? 10 : b == ';' ? 12 : 11;
            check.due("ahead of a RULE, byte " + (int) b, rule, blank ? 0 : 1 + 8 * place);
        }
    }

    private static void longTexts() {
        check.sentence("T2: TEXTS, at most 600 bytes");
        fineDocument("<a" + " ".repeat(597) + ">");
        document("<a" + " ".repeat(598) + "|", 1);
        document("<a>" + " ".repeat(596) + "|>", 1);
        fine("machine 1 1" + " ".repeat(579) + ";end 0=<a>");
        machine("machine 1 1" + " ".repeat(580) + ";end 0=<a|", 1);
        machine("machine 1 1" + "\n".repeat(588) + "|9", 1);
    }

    private static void documents() {
        check.sentence("T2: A DOCUMENT: { ELEMENT }; ELEMENT: < LETTER { ELEMENT } >; LETTER: the TOKEN a, b or c");
        fineDocument("");
        fineDocument("  \n");
        fineDocument("<a<b><c<a>>><b>");
        document("|>", 1);
        document("|a", 1);
        document("<|", 1);
        document("<|>", 1);
        document("<|<a>>", 1);
        document("<|d>", 1);
        document("<|z>", 1);
        document("<|ab>", 1);
        document("<|1>", 1);
        document("<a|1>", 1);
        document("<a |b>", 1);
        document("<a|", 1);
        document("<a<b>  |", 1);
        document("<a>|>", 1);
        document("<a>|;", 1);
        document("<a>|x0", 1);

        check.sentence("T2: A DOCUMENT: 40 ELEMENTS at most");
        fineDocument("<a>".repeat(40));
        fineDocument(Check.nested("c", 40));
        document("<a>".repeat(40) + "|<a>", 5);
    }

    private static void machines() {
        check.sentence("T2: A MACHINE: machine N N { ; RULE }");
        fine("machine 1 1");
        machine("|", 1);
        machine("|machin 1 1", 1);
        machine("|machines 1 1", 1);
        machine("|Machine 1 1", 1);
        machine("|1 1", 1);
        machine("|open a 0 0 0", 1);
        machine("machine|", 1);
        machine("machine 1|", 1);
        machine("machine 1 |x", 1);
        machine("machine 1|;end 0=", 1);
        machine("machine 1 1 |1", 1);
        machine("machine 1 1|,", 1);
        machine("machine 1 1 |end 0=", 1);
        machine("machine 1 1;|", 1);
        machine("machine 1 1;|;end 0=", 1);
        machine("machine 1 1;end 0=;|", 1);
        machine("machine 1 1;|rule", 1);
        machine("machine 1 1;|machine 1 1", 1);

        check.sentence("T2: RULE: open LETTER N N N");
        fine("machine 1 1;open c 0 0 0");
        machine("machine 1 1;open |d 0 0 0", 1);
        machine("machine 1 1;open |0 0 0", 1);
        machine("machine 1 1;open a|", 1);
        machine("machine 1 1;open a 0|;", 1);
        machine("machine 1 1;open a 0 0|", 1);
        machine("machine 1 1;open a 0 0 0 |0", 1);
        machine("machine 1 1;open a 0 0 0|=", 1);

        check.sentence("T2: RULE: close LETTER N N N = EXPRESSION { , EXPRESSION } (one for each REGISTER)");
        fine("machine 1 1;close a 0 0 0=");
        fine("machine 1 2;close a 0 0 0=,");
        fine("machine 1 3;close a 0 0 0=x0,<a>,y0");
        machine("machine 1 1;close |d 0 0 0=", 1);
        machine("machine 1 1;close a 0 0 |=", 1);
        machine("machine 1 1;close a 0 0 0|;", 1);
        machine("machine 1 1;close a 0 0 0 |x0", 1);
        machine("machine 1 1;close a 0 0 0=x0|,", 1);
        machine("machine 1 2;close a 0 0 0=x0|", 1);
        machine("machine 1 2;close a 0 0 0=x0|;end 0=", 1);
        machine("machine 1 2;close a 0 0 0=,|,", 1);
        machine("machine 1 3;close a 0 0 0=,|", 1);
        machine("machine 1 3;close a 0 0 0=,,|,", 1);

        check.sentence("T2: RULE: end N = EXPRESSION");
        fine("machine 1 3;end 0=");
        machine("machine 1 1;end|", 1);
        machine("machine 1 1;end |=", 1);
        machine("machine 1 1;end |a 0=", 1);
        machine("machine 1 1;end 0|", 1);
        machine("machine 1 1;end 0 |0=", 1);
        machine("machine 1 3;end 0=x0|,", 1);
    }

    private static void expressions() {
        check.sentence("T2: EXPRESSION: { PART }; PART: x N, y N, < LETTER { PART } >");
        fine("machine 1 3;close a 0 0 0=x0x1x2y0y1y2,<a<b><c>>,");
        fine("machine 1 3;close a 0 0 0=<a<b x0 y0>y1>x1,<c x2>,y2");
        machine("machine 1 1;close a 0 0 0=|>", 1);
        machine("machine 1 1;close a 0 0 0=<a>|>", 1);
        machine("machine 1 1;close a 0 0 0=<a|", 1);
        machine("machine 1 1;close a 0 0 0=<a|;", 1);
        machine("machine 1 2;close a 0 0 0=<a|,>", 1);
        machine("machine 1 1;close a 0 0 0=<|>", 1);
        machine("machine 1 1;close a 0 0 0=<|d>", 1);
        machine("machine 1 1;close a 0 0 0=<|0>", 1);
        machine("machine 1 1;close a 0 0 0=<|x0>", 1);
        machine("machine 1 1;close a 0 0 0=<a |b>", 1);
        machine("machine 1 1;close a 0 0 0=|a", 1);
        machine("machine 1 1;close a 0 0 0=x|", 1);
        machine("machine 1 1;close a 0 0 0=x |x0", 1);
        machine("machine 1 1;close a 0 0 0=|z0", 1);
        machine("machine 1 1;close a 0 0 0=|0", 1);
        machine("machine 1 1;close a 0 0 0=x0|=", 1);

        check.sentence("T1: y and a number (not of an END RULE)");
        fine("machine 1 1;close a 0 0 0=<a y0>");
        machine("machine 1 1;end 0=|y0", 1);
        machine("machine 1 1;end 0=<a |y0>", 1);
    }

    // ---- FAULTS

    private static void places() {
        check.sentence("T2: FAULTS, the first along the text");
        machine("machine |7 4", 2);
        machine("machine |0 ;", 2);
        machine("machine 1 1;open |d 9 9 9", 1);
        machine("machine 1 1;open a |9 00 9", 2);
        machine("machine 1 1;end 0=;end |0 00", 3);
        machine("machine 1 1;end 0=x0 x|0 x0 x9 <", 4);
        machine("machine 1 1;end 0=<a<a<a<a<a<a|<d", 5);
        document("<|d" + "<a>".repeat(41), 1);

        check.sentence("T2: its place (a TOKEN's first byte; the end's: the text's length)");
        machine("machine 1 1;   |openly", 1);
        machine("machine 1 1;open a    |123", 1);
        machine("machine 1 1;|", 1);
        machine("machine 1 1; \n |", 1);
        machine("   |", 1);
        document("<a \n  |", 1);
        document("  <a>   |>  ", 1);
    }

    private static void unfit() {
        check.sentence("T2: 1 what can't stand there (a number of two digits, too)");
        machine("machine |10 1", 1);
        machine("machine |01 1", 1);
        machine("machine 1 |11", 1);
        machine("machine 2 1;open a |01 0 0", 1);
        machine("machine 2 1;open a 0 |01 0", 1);
        machine("machine 2 1;open a 0 0 |01", 1);
        machine("machine 2 1;close a |01 0 0=", 1);
        machine("machine 2 1;close a 0 |01 0=", 1);
        machine("machine 2 1;close a 0 0 |01=", 1);
        machine("machine 2 1;end |01=", 1);
        machine("machine 2 1;end 0=x|00", 1);
        machine("machine 2 1;close a 0 0 0=y|00", 1);
        machine("machine 2 1;open a |0000000000 0 0", 1);
        machine("machine 1 1;open a 0 0 0|-", 1);
        machine("machine 1 1;end 0=|" + (char) 0xe2, 1);
    }

    /** Each digit of a place: those from low to high can be. */
    private static void digits(String ahead, String behind, int low, int high) {
        for (int digit = 0; digit <= 9; digit++) {
            if (digit < low || digit > high) {
                machine(ahead + "|" + digit + behind, 2);
            } else {
                fine(ahead + digit + behind);
            }
        }
    }

    private static void outside() {
        check.sentence("T2: 2 a digit that can't be: STATES");
        digits("machine ", " 1", 1, 6);
        check.sentence("T2: 2 a digit that can't be: REGISTERS");
        digits("machine 1 ", "", 1, 3);
        for (int states = 1; states <= 6; states += 5) {
            check.sentence("T2: 2 a digit that can't be: a STATE, of " + states);
            String machine = "machine " + states + " 1;";
            digits(machine + "open a ", " 0 0", 0, states - 1);
            digits(machine + "open a 0 ", " 0", 0, states - 1);
            digits(machine + "close a ", " 0 0=", 0, states - 1);
            digits(machine + "close a 0 0 ", "=", 0, states - 1);
            digits(machine + "end ", "=", 0, states - 1);
        }
        check.sentence("T2: 2 a digit that can't be: a MARK");
        digits("machine 1 1;open a 0 0 ", "", 0, 5);
        digits("machine 1 1;close a 0 ", " 0=", 0, 5);
        for (int registers = 1; registers <= 3; registers++) {
            check.sentence("T2: 2 a digit that can't be: a REGISTER, of " + registers);
            String machine = "machine 1 " + registers + ";";
            String commas = ",".repeat(registers - 1);
            digits(machine + "close a 0 0 0=" + commas + "x", "", 0, registers - 1);
            digits(machine + "close a 0 0 0=" + commas + "<a y", ">", 0, registers - 1);
            digits(machine + "end 0=x", "", 0, registers - 1);
        }
    }

    private static void again() {
        check.sentence("T2: 3 a RULE of the same LETTER, STATE told already, at its last of these: OPEN");
        fine("machine 2 1;open a 0 0 0;open b 0 0 0;open c 0 0 0;open a 1 0 0");
        machine("machine 2 1;open a 0 0 0;open a |0 1 1", 3);
        machine("machine 2 1;open a 0 0 0;open a |0", 3);
        machine("machine 6 1;open c 5 0 0;open a 5 0 0;open c |5 0 0", 3);

        check.sentence("T2: 3 a RULE of the same LETTER, STATE (CLOSE: MARK) told already, at its last of these: CLOSE");
        fine("machine 2 1;close a 0 0 0=;close b 0 0 0=;close a 1 0 0=;close a 0 1 0=;open a 0 0 0");
        machine("machine 2 1;close a 0 0 0=;close a 0 |0 1=", 3);
        machine("machine 6 1;close c 5 5 0=;open c 5 0 5;close c 5 |5 9=", 3);

        check.sentence("T2: 3 a RULE of the same STATE told already, at its last of these: END");
        fine("machine 2 1;end 0=;end 1=");
        machine("machine 2 1;end 0=;end 1=;end |0=x0", 3);
        machine("machine 6 1;end 5=;end |5", 3);
    }

    private static void twice() {
        check.sentence("T2: 4 an x, a y for the second time, at its digit (in a RULE, of all its EXPRESSIONS)");
        fine("machine 1 2;close a 0 0 0=x0y0,x1y1;close b 0 0 0=x0y0,x1y1;end 0=x0x1");
        fine("machine 1 3;close a 0 0 0=x0y0x1,y1<a x2>,y2;end 0=x2x1x0");
        machine("machine 1 1;close a 0 0 0=x0y0x|0", 4);
        machine("machine 1 1;close a 0 0 0=y0x0y|0", 4);
        machine("machine 1 2;close a 0 0 0=x0,x|0", 4);
        machine("machine 1 2;close a 0 0 0=y1<a<b y|1>>,", 4);
        machine("machine 1 3;close a 0 0 0=x2,,y2<a x  |2>", 4);
        machine("machine 1 2;end 0=x1 x |1", 4);
    }

    private static void tooMany() {
        check.sentence("T2: 5 one too many: a 25th RULE at its word");
        String rules = Samples.full();
        check.due("24 rules", Check.tell(new TreeStream(), 0, rules), 24);
        machine(rules + ";|close a 0 0 0=", 5);
        machine(rules + ";|open a 0 0 0", 5);
        machine(rules + "; |end", 5);
        machine(rules + "|,", 1);
        machine(rules + ";|", 1);

        check.sentence("T2: 5 one too many: a 7th ELEMENT of a RULE at its <");
        fine("machine 1 3;close a 0 0 0=<a><a>,<a><a>,<a><a>;close b 0 0 0=<a<a<a<a<a<a>>>>>>,,;end 0=<a><a><a><a><a><a>");
        machine("machine 1 3;close a 0 0 0=<a><a>,<a><a>,<a><a>|<a>", 5);
        machine("machine 1 1;close a 0 0 0=<a<a<a<a<a<a|<a", 5);
        machine("machine 1 1;end 0=<a<a<a><a<a><a>|<a>", 5);
        machine("machine 1 1;end 0=<a><a><a><a><a><a>  |<", 5);

        check.sentence("T2: 5 one too many: a 41st of a DOCUMENT at its <");
        document("<a>".repeat(40) + "|<a>", 5);
        document("<a>".repeat(40) + " |<", 5);
        document("<a ".repeat(39) + "<b" + "|<c", 5);
        document("<a>".repeat(40) + "|>", 1);
        document("<a>".repeat(40) + "|a", 1);
    }

    private static void ofOnePlace() {
        check.sentence("T2: of one place the least kind");
        machine("machine |70 1", 1);
        machine("machine 1 1;open a |99 0 0", 1);
        machine("machine 1 1;end 0=;end |00=", 1);
        machine("machine 1 1;end 0=x0x|00", 1);
        machine("machine 1 1;end 0=x0x|1", 2);
        machine(Samples.full() + "; |ends", 1);
        machine(Samples.full() + "; |1", 1);
        machine("machine 1 1;close a 0 0 0=<a<a<a<a<a<a|<<", 5);
        machine("machine 1 1;close a 0 0 0=<a<a<a<a<a<|<", 1);
        document("<a>".repeat(39) + "<|<", 1);
    }

    // ---- against a second reader

    private static void bent(int rounds, int seed) {
        int[] kinds = new int[6];
        for (int i = 0; i < rounds; i++) {
            TreeStream x = new TreeStream();
            Random random = new Random(seed + i);
            String text = bend(random, Model.random(random, 6, 3).text());
            int due = new Second(text).machineFault();
            check.due("fault of " + text, Check.machineFault(x, text), due);
            kinds[due % 8]++;
            String row = bend(random, Model.randomDocument(random, 44, 3));
            check.due("fault of " + row, Check.documentFault(x, row), new Second(row).documentFault());
        }
        for (int kind = 0; kind < 6; kind++) {
            check.due("some of kind " + kind, kinds[kind] > 0 ? 1 : 0, 1);
        }
    }

    private static String bend(Random random, String text) {
        String[] parts = {"open", "close", "end", "machine", "a", "b", "c", "d", "x", "y", "x0", "y0", "x1", "0", "1", "2", "5", "6", "9",
            ";", "=", ",", "<", ">", " ", "\n", "<a>", "<a", ">>", ";end 0=", ";open a 0 0 0", "!", "\t", "<a><b><c><a><b>", ""};
        StringBuilder bent = new StringBuilder(text);
        int times = random.nextInt(3);
        for (int i = 0; i < times; i++) {
            int from = random.nextInt(bent.length() + 1);
            int to = Math.min(bent.length(), from + random.nextInt(3));
            bent.replace(from, to, parts[random.nextInt(parts.length)]);
        }
        if (random.nextInt(4) == 0) {
            String[] rules = bent.toString().split(";", -1);
            String rule = ";" + rules[random.nextInt(rules.length)];
            for (int i = random.nextInt(3); i >= 0; i--) {
                bent.append(rule);
            }
        }
        return bent.length() > 600 ? bent.substring(0, 600) : bent.toString();
    }

    /** Reads texts as they are written down in the document, and goes out at the first FAULT. */
    private static final class Second {
        private static final class Fault extends Exception {
            final int told;

            Fault(int kind, int place) {
                told = kind + 8 * place;
            }
        }

        private final List<String> tokens = new ArrayList<>();
        private final List<Integer> places = new ArrayList<>();
        private int at = 0;
        private int states;
        private int registers;
        private final Set<String> keys = new HashSet<>();
        private final Set<String> parts = new HashSet<>();
        private int own;

        Second(String text) {
            String rest = text;
            while (!rest.isEmpty()) {
                String token = rest.replaceFirst("(?s)^([a-z]+|[0-9]+|.).*$", "$1");
                if (!token.equals(" ") && !token.equals("\n")) {
                    tokens.add(token);
                    places.add(text.length() - rest.length());
                }
                rest = rest.substring(token.length());
            }
            tokens.add("");
            places.add(text.length());
        }

        int machineFault() {
            try {
                wholeMachine();
                return 0;
            } catch (Fault fault) {
                return fault.told;
            }
        }

        int documentFault() {
            try {
                int many = 0;
                while (!tokens.get(at).isEmpty()) {
                    many = element(many);
                }
                return 0;
            } catch (Fault fault) {
                return fault.told;
            }
        }

        private int element(int before) throws Fault {
            int many = before;
            want("<");
            if (++many > 40) {
                throw new Fault(5, places.get(at - 1));
            }
            want("a", "b", "c");
            while (tokens.get(at).equals("<")) {
                many = element(many);
            }
            want(">");
            return many;
        }

        private String want(String... fit) throws Fault {
            for (String one : fit) {
                if (tokens.get(at).equals(one)) {
                    return tokens.get(at++);
                }
            }
            throw new Fault(1, places.get(at));
        }

        private int digit(int low, int high) throws Fault {
            String token = tokens.get(at);
            if (!token.matches("[0-9]")) {
                throw new Fault(1, places.get(at));
            }
            int value = Integer.parseInt(token);
            if (value < low || value > high) {
                throw new Fault(2, places.get(at));
            }
            at++;
            return value;
        }

        private void once(Set<String> seen, String key, int kind) throws Fault {
            if (!seen.add(key)) {
                throw new Fault(kind, places.get(at - 1));
            }
        }

        private void wholeMachine() throws Fault {
            want("machine");
            states = digit(1, 6);
            registers = digit(1, 3);
            int rules = 0;
            while (!tokens.get(at).isEmpty()) {
                want(";");
                String word = want("open", "close", "end");
                if (++rules > 24) {
                    throw new Fault(5, places.get(at - 1));
                }
                parts.clear();
                own = 0;
                rule(word);
            }
        }

        private void rule(String word) throws Fault {
            String key = word + (word.equals("end") ? "" : want("a", "b", "c")) + digit(0, states - 1);
            if (word.equals("close")) {
                key += digit(0, 5);
            }
            once(keys, key, 3);
            if (!word.equals("end")) {
                digit(0, states - 1);
            }
            if (word.equals("open")) {
                digit(0, 5);
                return;
            }
            want("=");
            for (int r = 0; r < (word.equals("end") ? 1 : registers); r++) {
                if (r > 0) {
                    want(",");
                }
                while (List.of("x", "y", "<").contains(tokens.get(at))) {
                    part(word);
                }
            }
        }

        private void part(String word) throws Fault {
            String token = word.equals("end") ? want("x", "<") : want("x", "y", "<");
            if (!token.equals("<")) {
                once(parts, token + digit(0, registers - 1), 4);
                return;
            }
            if (++own > 6) {
                throw new Fault(5, places.get(at - 1));
            }
            want("a", "b", "c");
            while (!tokens.get(at).equals(">")) {
                part(word);
            }
            want(">");
        }
    }
}
