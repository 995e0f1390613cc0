import java.util.ArrayList;
import java.util.Collections;
import java.util.HashMap;
import java.util.List;
import java.util.Map;
import java.util.Random;

/** A MACHINE in the plainest form, with rows as texts such as "<a<b>>": what TreeStream is held against. */
final class Model {
    int states;
    int registers;
    final Map<String, int[]> opens = new HashMap<>();
    final Map<String, Closing> closes = new HashMap<>();
    final Map<Integer, String> ends = new HashMap<>();
    final List<String> ruleTexts = new ArrayList<>();

    static final class Closing {
        int to;
        String[] expressions;
    }

    static final class Config {
        int state;
        String[] registers;
        Config under;
        int letter;
        int mark;

        int held() {
            int sum = under == null ? 0 : under.held();
            for (String row : registers) {
                sum += elements(row);
            }
            return sum;
        }

        int depth() {
            return under == null ? 0 : 1 + under.depth();
        }
    }

    static int elements(String row) {
        int sum = 0;
        for (int i = 0; i < row.length(); i++) {
            if (row.charAt(i) == '<') {
                sum++;
            }
        }
        return sum;
    }

    /** The EVENTS of a row: 0, 1, 2, 3. */
    static List<Integer> events(String row) {
        List<Integer> events = new ArrayList<>();
        for (int i = 0; i < row.length(); i++) {
            if (row.charAt(i) == '>') {
                events.add(3);
            } else if (row.charAt(i) != '<') {
                events.add(row.charAt(i) - 'a');
            }
        }
        return events;
    }

    Config fresh(int state) {
        Config c = new Config();
        c.state = state;
        c.registers = new String[registers];
        for (int r = 0; r < registers; r++) {
            c.registers[r] = "";
        }
        return c;
    }

    /** Null: REFUSED. */
    Config step(Config c, int event) {
        if (event < 3) {
            int[] rule = opens.get(event + " " + c.state);
            if (rule == null) {
                return null;
            }
            Config n = fresh(rule[0]);
            n.under = c;
            n.letter = event;
            n.mark = rule[1];
            return n;
        }
        if (c.under == null) {
            return null;
        }
        Closing rule = closes.get(c.letter + " " + c.state + " " + c.mark);
        if (rule == null) {
            return null;
        }
        Config n = fresh(rule.to);
        n.under = c.under.under;
        n.letter = c.under.letter;
        n.mark = c.under.mark;
        for (int r = 0; r < registers; r++) {
            n.registers[r] = filled(rule.expressions[r], c.registers, c.under.registers);
        }
        return n;
    }

    static String filled(String expression, String[] x, String[] y) {
        StringBuilder row = new StringBuilder();
        for (int i = 0; i < expression.length(); i++) {
            char sign = expression.charAt(i);
            if (sign == 'x' || sign == 'y') {
                i++;
                row.append((sign == 'x' ? x : y)[expression.charAt(i) - '0']);
            } else {
                row.append(sign);
            }
        }
        return row.toString();
    }

    /** The EVENT at which it is REFUSED, or -1. */
    int refusal(String document) {
        Config c = fresh(0);
        List<Integer> events = events(document);
        for (int i = 0; i < events.size(); i++) {
            c = step(c, events.get(i));
            if (c == null) {
                return i;
            }
        }
        return ends.containsKey(c.state) ? -1 : events.size();
    }

    /** OUT; null: REFUSED. */
    String run(String document) {
        Config c = after(fresh(0), document);
        return c == null ? null : end(c);
    }

    String end(Config c) {
        String expression = ends.get(c.state);
        return expression == null || c.under != null ? null : filled(expression, c.registers, null);
    }

    /** Null: REFUSED. */
    Config after(Config from, String row) {
        Config c = from;
        for (int event : events(row)) {
            c = c == null ? null : step(c, event);
        }
        return c;
    }

    int peak(String document) {
        if (refusal(document) != -1) {
            return -1;
        }
        Config c = fresh(0);
        int most = 0;
        for (int event : events(document)) {
            c = step(c, event);
            most = Math.max(most, c.held());
        }
        return most;
    }

    String text() {
        StringBuilder text = new StringBuilder("machine " + states + " " + registers);
        for (String rule : ruleTexts) {
            text.append(";").append(rule);
        }
        return text.toString();
    }

    /** All DOCUMENTS of n ELEMENTS in their order. */
    static List<String> documents(int n) {
        List<String> rows = new ArrayList<>();
        extend("", 0, 0, n, rows);
        return rows;
    }

    private static void extend(String row, int opens, int depth, int n, List<String> rows) {
        if (opens == n && depth == 0) {
            rows.add(row);
            return;
        }
        for (int letter = 0; letter < 3 && opens < n; letter++) {
            extend(row + "<" + "abc".charAt(letter), opens + 1, depth + 1, n, rows);
        }
        if (depth > 0) {
            extend(row + ">", opens, depth - 1, n, rows);
        }
    }

    // ---- made at random

    static Model random(Random random, int mostStates, int mostRegisters) {
        Model m;
        do {
            m = tryRandom(random, mostStates, mostRegisters);
        } while (m.text().length() > 600);
        return m;
    }

    private static Model tryRandom(Random random, int mostStates, int mostRegisters) {
        Model m = new Model();
        m.states = 1 + random.nextInt(1 + random.nextInt(mostStates));
        m.registers = 1 + random.nextInt(mostRegisters);
        int letters = 1 + random.nextInt(3);
        int marks = 1 + random.nextInt(random.nextInt(3) + 1);
        int lack = random.nextInt(40);
        List<int[]> keys = new ArrayList<>();
        for (int l = 0; l < letters; l++) {
            for (int q = 0; q < m.states; q++) {
                keys.add(new int[] {0, l, q, 0});
                for (int p = 0; p < marks; p++) {
                    keys.add(new int[] {1, l, q, p * (marks > 2 ? 2 : 5)});
                }
            }
        }
        for (int q = 0; q < m.states; q++) {
            keys.add(new int[] {2, 0, q, 0});
        }
        Collections.shuffle(keys, random);
        int greed = random.nextInt(4);
        for (int[] key : keys) {
            if (m.ruleTexts.size() < 24 && random.nextInt(100) >= lack) {
                m.addRandom(random, key, marks, greed);
            }
        }
        return m;
    }

    private void addRandom(Random random, int[] key, int marks, int greed) {
        String letter = "" + "abc".charAt(key[1]);
        int to = random.nextInt(states);
        if (key[0] == 0) {
            int mark = random.nextInt(marks) * (marks > 2 ? 2 : 5);
            opens.put(key[1] + " " + key[2], new int[] {to, mark});
            ruleTexts.add("open " + letter + " " + key[2] + " " + to + " " + mark);
        } else if (key[0] == 1) {
            Closing rule = new Closing();
            rule.to = to;
            rule.expressions = expressions(random, registers, true, greed);
            closes.put(key[1] + " " + key[2] + " " + key[3], rule);
            ruleTexts.add("close " + letter + " " + key[2] + " " + key[3] + " " + to + "=" + spaced(String.join(",", rule.expressions)));
        } else {
            String expression = expressions(random, 1, false, greed)[0];
            ends.put(key[2], expression);
            ruleTexts.add("end " + key[2] + "=" + spaced(expression));
        }
    }

    /** A LETTER ahead of x or y must not run together with it. */
    private static String spaced(String expression) {
        return expression.replace("ax", "a x").replace("ay", "a y").replace("bx", "b x").replace("by", "b y")
            .replace("cx", "c x").replace("cy", "c y");
    }

    private String[] expressions(Random random, int many, boolean stacked, int greed) {
        List<String> parts = new ArrayList<>();
        for (int r = 0; r < registers; r++) {
            if (random.nextInt(5) > 0) {
                parts.add("x" + r);
            }
            if (stacked && random.nextInt(5) > 0) {
                parts.add("y" + r);
            }
        }
        int own = random.nextInt(random.nextInt(greed + 1) * 2 + 1);
        for (int i = 0; i < own; i++) {
            parts.add("<" + "abc".charAt(random.nextInt(3)));
        }
        Collections.shuffle(parts, random);
        StringBuilder[] rows = new StringBuilder[many];
        int[] depths = new int[many];
        for (int i = 0; i < many; i++) {
            rows[i] = new StringBuilder();
        }
        for (String part : parts) {
            int i = random.nextInt(many);
            while (depths[i] > 0 && random.nextInt(3) == 0) {
                rows[i].append(">");
                depths[i]--;
            }
            rows[i].append(part);
            if (part.startsWith("<")) {
                depths[i]++;
            }
        }
        String[] texts = new String[many];
        for (int i = 0; i < many; i++) {
            texts[i] = rows[i] + ">".repeat(depths[i]);
        }
        return texts;
    }

    static String randomDocument(Random random, int most, int letters) {
        int n = random.nextInt(most + 1);
        StringBuilder row = new StringBuilder();
        int depth = 0;
        int deep = 1 + random.nextInt(4);
        for (int i = 0; i < n;) {
            if (depth > 0 && random.nextInt(deep + 1) == 0) {
                row.append(">");
                depth--;
            } else {
                row.append("<").append("abc".charAt(random.nextInt(letters)));
                depth++;
                i++;
            }
        }
        return row + ">".repeat(depth);
    }
}
