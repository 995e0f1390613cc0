import java.util.ArrayList;
import java.util.HashSet;
import java.util.List;
import java.util.Random;
import java.util.Set;

/** FAULTS of texts: by hand, and against a second reader of texts on texts that were bent at random. */
public final class FaultsTest {
    private static Check check;
    private static TreeStream x;

    public static void main(String[] args) {
        int rounds = args.length > 0 ? Integer.parseInt(args[0]) : 3000;
        int seed = args.length > 1 ? Integer.parseInt(args[1]) : 0;
        check = new Check();
        x = new TreeStream();
        unfit();
        outside();
        again();
        twice();
        tooMany();
        ofOnePlace();
        documents();
        bent(rounds, seed);
        check.ends();
    }

    private static void machine(String text, int kind, int place) {
        check.due("fault of " + text, Check.machineFault(x, text), kind + 8 * place);
    }

    /** The FAULT is where the text has a | (which is taken away). */
    private static void machine(String marked, int kind) {
        machine(marked.replace("|", ""), kind, marked.indexOf('|'));
    }

    private static void document(String marked, int kind) {
        check.due("fault of " + marked, Check.documentFault(x, marked.replace("|", "")), kind + 8 * marked.indexOf('|'));
    }

    private static void fine(String text) {
        machine(text, 0, 0);
    }

    private static void unfit() {
        fine("machine 1 1");
        fine(" \nmachine1 1 ");
        fine("machine 1 3;close a 0 0 0=,,");
        fine("machine 1 3;close a 0 0 0=x0x1x2y0y1y2,<a<b><c>>,");
        fine("machine 1 2;close a 0 0 0=x0,x1;end 0=x0x1");
        machine("|", 1);
        machine("   |", 1);
        machine("|machin 1 1", 1);
        machine("|machines 1 1", 1);
        machine("|machinea 1 1", 1);
        machine("|Machine 1 1", 1);
        machine("|1 1", 1);
        machine("machine |11", 1);
        machine("machine |70 1", 1);
        machine("machine 1|", 1);
        machine("machine 1  |", 1);
        machine("machine 1 |x", 1);
        machine("machine 1 |01", 1);
        machine("machine 1 1 |1", 1);
        machine("machine 1 1|,", 1);
        machine("machine 1 1;|", 1);
        machine("machine 1 1; |", 1);
        machine("machine 1 1;|;end 0=", 1);
        machine("machine 1 1;|rule", 1);
        machine("machine 1 1;|opena 0 0 0", 1);
        machine("machine 1 1;open |d 0 0 0", 1);
        machine("machine 1 1;open |ab 0 0 0", 1);
        machine("machine 1 1;open |0 0 0 0", 1);
        machine("machine 1 1;open a |000", 1);
        machine("machine 1 1;open a 0|;", 1);
        machine("machine 1 1;open a 0 0|", 1);
        machine("machine 1 1;open a 0 0 0 |0", 1);
        machine("machine 1 1;open a 0 0 0|=", 1);
        machine("machine 1 1;close a 0 0 0|;", 1);
        machine("machine 1 1;close a 0 0 |=", 1);
        machine("machine 1 1;close a 0 0 0=x0|,", 1);
        machine("machine 1 2;close a 0 0 0=x0|", 1);
        machine("machine 1 2;close a 0 0 0=x0|;end 0=", 1);
        machine("machine 1 2;close a 0 0 0=,|,", 1);
        machine("machine 1 1;close a 0 0 0=|>", 1);
        machine("machine 1 1;close a 0 0 0=<a>|>", 1);
        machine("machine 1 1;close a 0 0 0=<a|", 1);
        machine("machine 1 1;close a 0 0 0=<a|;", 1);
        machine("machine 1 2;close a 0 0 0=<a|,>", 1);
        machine("machine 1 1;close a 0 0 0=<|>", 1);
        machine("machine 1 1;close a 0 0 0=<|x0>", 1);
        machine("machine 1 1;close a 0 0 0=<|ax0>", 1);
        machine("machine 1 1;close a 0 0 0=<a |b>", 1);
        machine("machine 1 1;close a 0 0 0=x |x0", 1);
        machine("machine 1 1;close a 0 0 0=x|00", 1);
        machine("machine 1 1;close a 0 0 0=|z0", 1);
        machine("machine 1 1;close a 0 0 0=|xx0", 1);
        machine("machine 1 1;close a 0 0 0=|0", 1);
        machine("machine 1 1;end 0=|y0", 1);
        machine("machine 1 1;end 0=<|ay0>", 1);
        machine("machine 1 1;end 0=<a |y0>", 1);
        machine("machine 1 1;end 0=x0|,", 1);
        machine("machine 1 1;end 0|", 1);
        machine("machine 1 1;end |=", 1);
        machine("machine 1 1;end |00=", 1);
        machine("machine 1 1|\t", 1);
        machine("machine 1 1|\r\n", 1);
        machine("machine 1 1|" + (char) 0, 1);
        machine("machine 1 1;end 0=|" + (char) 0xe2, 1);
        machine("machine 1 1;open a 0 0 0|-", 1);
    }

    private static void outside() {
        fine("machine 6 3");
        fine("machine 6 3;open a 5 5 5;close c 5 5 5=x2,y2,");
        machine("machine |0 1", 2);
        machine("machine |7 1", 2);
        machine("machine 1 |0", 2);
        machine("machine 1 |4", 2);
        machine("machine 2 1;open a |2 0 0", 2);
        machine("machine 2 1;open a 1 |2 0", 2);
        machine("machine 2 1;open a 1 1 |6", 2);
        machine("machine 2 1;close a |2 0 0=", 2);
        machine("machine 2 1;close a 1 |6 0=", 2);
        machine("machine 2 1;close a 1 5 |2=", 2);
        machine("machine 2 1;end |2=", 2);
        machine("machine 2 1;end 1=x|1", 2);
        machine("machine 2 2;close a 0 0 0=,y|2", 2);
    }

    private static void again() {
        fine("machine 2 1;open a 0 0 0;open b 0 0 0;open a 1 0 0");
        fine("machine 2 1;close a 0 0 0=;close b 0 0 0=;close a 1 0 0=;close a 0 1 0=;end 0=;end 1=");
        machine("machine 2 1;open a 0 0 0;open a |0 1 1", 3);
        machine("machine 2 1;open a 0 0 0;open a |0", 3);
        machine("machine 2 1;close a 0 0 0=;close a 0 |0 1=", 3);
        machine("machine 2 1;end 0=;end 1=;end |0=x0", 3);
        machine("machine 2 1;close c 1 5 0=;open c 1 0 0;close c 1 |5 9=", 3);
    }

    private static void twice() {
        fine("machine 1 2;close a 0 0 0=x0y0,x1y1;close b 0 0 0=x0y0,x1y1;end 0=x0x1");
        machine("machine 1 2;close a 0 0 0=x0,x|0", 4);
        machine("machine 1 2;close a 0 0 0=y1<a<b y|1>>,", 4);
        machine("machine 1 2;end 0=x1 x |1", 4);
    }

    private static void tooMany() {
        StringBuilder rules = new StringBuilder("machine 6 1");
        for (int l = 0; l < 3; l++) {
            for (int q = 0; q < 6; q++) {
                rules.append(";open ").append("abc".charAt(l)).append(" ").append(q).append(" 0 0");
            }
        }
        for (int q = 0; q < 6; q++) {
            rules.append(";end ").append(q).append("=");
        }
        check.due("24 rules", Check.tell(x, 0, rules.toString()), 24);
        machine(rules + ";|close a 0 0 0=", 5);
        machine(rules + ";|open a 0 0 0", 5);
        machine(rules + "; |end", 5);
        machine(rules + "; |ends", 1);
        machine(rules + ";|", 1);
        fine("machine 1 3;close a 0 0 0=<a><a>,<a><a>,<a><a>;end 0=<a><a><a><a><a><a>");
        machine("machine 1 3;close a 0 0 0=<a><a>,<a><a>,<a><a>|<a>", 5);
        machine("machine 1 1;close a 0 0 0=<a<a<a<a<a<a|<", 5);
        machine("machine 1 1;close a 0 0 0=<a<a<a<a<a<a|<d", 5);
        machine("machine 1 1;close a 0 0 0=<a<a<a<a<|<", 1);
    }

    private static void ofOnePlace() {
        machine("machine 1 1;end 0=;end |00=", 1);
        machine("machine 1 1;end 0=x0x|00", 1);
        machine("machine 1 1;end 0=x0x|1", 2);
    }

    private static void documents() {
        check.due("fine", Check.documentFault(x, " < a >\n<b<c>>"), 0);
        document("<a|", 1);
        document("<a>|>", 1);
        document("|>", 1);
        document("|a", 1);
        document("<|>", 1);
        document("<|d>", 1);
        document("<|ab>", 1);
        document("<|1>", 1);
        document("<a|1>", 1);
        document("<a |b>", 1);
        document("<a<b>  |", 1);
        document("<a>|;", 1);
        document("<a>|x0", 1);
        document("<|", 1);
        document("<|<a>>", 1);
        document(Check.repeated("<a>", 40) + "|<a>", 5);
        document(Check.repeated("<a>", 40) + "|<", 5);
        document(Check.repeated("<a>", 40) + "|>", 1);
        document(Check.repeated("<a>", 40) + "|a", 1);
        document(Check.repeated("<a ", 39) + "<b" + "|<c", 5);
    }

    // ---- against a second reader

    private static void bent(int rounds, int seed) {
        int[] kinds = new int[6];
        for (int i = 0; i < rounds; i++) {
            Random random = new Random(seed + i);
            String text = bend(random, Model.random(random, 6, 3).text());
            int due = new Second(text).machineFault();
            check.due("fault of " + text, Check.machineFault(x, text), due);
            kinds[due % 8]++;
            String row = bend(random, Model.randomDocument(random, 44, 3));
            check.due("fault of " + row, Check.documentFault(x, row), new Second(row).documentFault());
        }
        for (int kind = 0; kind < 6; kind++) {
            check.due("some of kind " + kind, kinds[kind] > 0 ? 1 : 0, 1);
        }
    }

    private static String bend(Random random, String text) {
        String[] parts = {"open", "close", "end", "machine", "a", "b", "c", "d", "x", "y", "x0", "y0", "x1", "0", "1", "2", "5", "6", "9",
            ";", "=", ",", "<", ">", " ", "\n", "<a>", "<a", ">>", ";end 0=", ";open a 0 0 0", "!", "\t", "<a><b><c><a><b>", ""};
        StringBuilder bent = new StringBuilder(text);
        int times = random.nextInt(3);
        for (int i = 0; i < times; i++) {
            int from = random.nextInt(bent.length() + 1);
            int to = Math.min(bent.length(), from + random.nextInt(3));
            bent.replace(from, to, parts[random.nextInt(parts.length)]);
        }
        if (random.nextInt(4) == 0) {
            String[] rules = bent.toString().split(";", -1);
            String rule = ";" + rules[random.nextInt(rules.length)];
            for (int i = random.nextInt(3); i >= 0; i--) {
                bent.append(rule);
            }
        }
        return bent.length() > 600 ? bent.substring(0, 600) : bent.toString();
    }

    /** Reads texts as they are written down in the document, and goes out at the first FAULT. */
    private static final class Second {
        private static final class Fault extends Exception {
            final int told;

            Fault(int kind, int place) {
                told = kind + 8 * place;
            }
        }

        private final List<String> tokens = new ArrayList<>();
        private final List<Integer> places = new ArrayList<>();
        private int at = 0;
        private int states;
        private int registers;
        private final Set<String> keys = new HashSet<>();
        private final Set<String> parts = new HashSet<>();
        private int own;

        Second(String text) {
            String rest = text;
            while (!rest.isEmpty()) {
                String token = rest.replaceFirst("(?s)^([a-z]+|[0-9]+|.).*$", "$1");
                if (!token.equals(" ") && !token.equals("\n")) {
                    tokens.add(token);
                    places.add(text.length() - rest.length());
                }
                rest = rest.substring(token.length());
            }
            tokens.add("");
            places.add(text.length());
        }

        int machineFault() {
            try {
                wholeMachine();
                return 0;
            } catch (Fault fault) {
                return fault.told;
            }
        }

        int documentFault() {
            try {
                int many = 0;
                while (!tokens.get(at).isEmpty()) {
                    many = element(many);
                }
                return 0;
            } catch (Fault fault) {
                return fault.told;
            }
        }

        private int element(int before) throws Fault {
            int many = before;
            want("<");
            if (++many > 40) {
                throw new Fault(5, places.get(at - 1));
            }
            want("a", "b", "c");
            while (tokens.get(at).equals("<")) {
                many = element(many);
            }
            want(">");
            return many;
        }

        private String want(String... fit) throws Fault {
            for (String one : fit) {
                if (tokens.get(at).equals(one)) {
                    return tokens.get(at++);
                }
            }
            throw new Fault(1, places.get(at));
        }

        private int digit(int low, int high) throws Fault {
            String token = tokens.get(at);
            if (!token.matches("[0-9]")) {
                throw new Fault(1, places.get(at));
            }
            int value = Integer.parseInt(token);
            if (value < low || value > high) {
                throw new Fault(2, places.get(at));
            }
            at++;
            return value;
        }

        private void once(Set<String> seen, String key, int kind) throws Fault {
            if (!seen.add(key)) {
                throw new Fault(kind, places.get(at - 1));
            }
        }

        private void wholeMachine() throws Fault {
            want("machine");
            states = digit(1, 6);
            registers = digit(1, 3);
            int rules = 0;
            while (!tokens.get(at).isEmpty()) {
                want(";");
                String word = want("open", "close", "end");
                if (++rules > 24) {
                    throw new Fault(5, places.get(at - 1));
                }
                parts.clear();
                own = 0;
                rule(word);
            }
        }

        private void rule(String word) throws Fault {
            String key = word + (word.equals("end") ? "" : want("a", "b", "c")) + digit(0, states - 1);
            if (word.equals("close")) {
                key += digit(0, 5);
            }
            once(keys, key, 3);
            if (!word.equals("end")) {
                digit(0, states - 1);
            }
            if (word.equals("open")) {
                digit(0, 5);
                return;
            }
            want("=");
            for (int r = 0; r < (word.equals("end") ? 1 : registers); r++) {
                if (r > 0) {
                    want(",");
                }
                while (List.of("x", "y", "<").contains(tokens.get(at))) {
                    part(word);
                }
            }
        }

        private void part(String word) throws Fault {
            String token = word.equals("end") ? want("x", "<") : want("x", "y", "<");
            if (!token.equals("<")) {
                once(parts, token + digit(0, registers - 1), 4);
                return;
            }
            if (++own > 6) {
                throw new Fault(5, places.get(at - 1));
            }
            want("a", "b", "c");
            while (!tokens.get(at).equals(">")) {
                part(word);
            }
            want(">");
        }
    }
}
