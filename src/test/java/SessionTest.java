import java.util.ArrayList;
import java.util.List;
import java.util.Random;

/** Whole lives of objects, 512 calls of every kind mixed at random, each answer against a plain twin of the object. */
public final class SessionTest {
    private static final int NONE = TreeStream.NONE;
    private static final int CALLS = 512;

    private final Check check;
    private final Random random;
    private final TreeStream x = new TreeStream();
    private int calls = 0;

    // the twin
    private String tape = "";
    private final Model[] machines = new Model[4];
    private String document = "";
    private String out = "";
    private int fault = 0;
    private Model reader;
    private Model.Config config;
    private int came;
    private int most;

    private SessionTest(Check check, Random random) {
        this.check = check;
        this.random = random;
    }

    public static void main(String[] args) {
        int rounds = args.length > 0 ? Integer.parseInt(args[0]) : 60;
        int seed = args.length > 1 ? Integer.parseInt(args[1]) : 0;
        Check check = new Check();
        for (int i = 0; i < rounds; i++) {
            new SessionTest(check, new Random(seed + i)).live();
        }
        check.ends();
    }

    private void live() {
        while (calls < CALLS) {
            int kind = random.nextInt(10);
            if (kind == 0 || calls < 40 && kind < 5) {
                tellMachine();
            } else if (kind == 1) {
                tellDocument();
            } else if (kind == 2) {
                tapeCalls();
            } else if (kind < 6) {
                readingCalls();
            } else if (kind < 9) {
                documentCalls();
            } else {
                machineCalls();
            }
            counts();
        }
    }

    private int due(String what, long got, long want) {
        calls++;
        check.due("call " + calls + " " + what, got, want);
        return 0;
    }

    private Model told(int k) {
        return k >= 0 && k < 4 ? machines[k] : null;
    }

    private int slot() {
        return random.nextInt(20) == 0 ? random.nextInt(9) - 3 : random.nextInt(3);
    }

    private void feed(String text) {
        for (int i = 0; i < text.length(); i += 20) {
            int[] numbers = new int[5];
            for (int j = 0; j < 20; j++) {
                char sign = i + j < text.length() ? text.charAt(i + j) : ' ';
                numbers[j / 4] = numbers[j / 4] << 8 | sign;
            }
            boolean fits = tape.length() + 20 <= 600;
            if (fits) {
                tape += (text + " ".repeat(20)).substring(i, i + 20);
            }
            due("feed", x.feed(numbers[0], numbers[1], numbers[2], numbers[3], numbers[4]), fits ? tape.length() : NONE);
        }
    }

    private void cut(int n) {
        boolean can = n >= 0 && n <= tape.length();
        due("end " + n, x.end(n) ? 1 : 0, can ? 1 : 0);
        tape = can ? tape.substring(0, n) : tape;
    }

    private void tapeCalls() {
        if (random.nextBoolean()) {
            feed("<a> ".repeat(5));
        }
        cut(random.nextInt(4) == 0 ? random.nextInt(700) - 50 : tape.length() / 20 * 20);
        if (random.nextInt(3) == 0) {
            int k = random.nextBoolean() ? 4 : -1;
            due("machine " + k, x.machine(k), NONE);
        }
        due("fault", x.fault(), fault);
    }

    private void tellMachine() {
        cut(0);
        Model m = Model.random(random, 3, 3);
        feed(m.text());
        cut(m.text().length());
        int k = random.nextInt(3);
        if (random.nextInt(5) == 0) {
            cut(4);
            due("machine " + k, x.machine(k), -2);
            fault = 1;
        } else {
            due("machine " + k, x.machine(k), m.ruleTexts.size());
            machines[k] = m;
            fault = 0;
        }
        tape = "";
        due("fault", x.fault(), fault);
    }

    private void tellDocument() {
        cut(0);
        String row = Model.randomDocument(random, random.nextInt(12), 1 + random.nextInt(3));
        feed(row);
        cut(row.length());
        if (random.nextInt(5) == 0) {
            feed(">");
            due("document", x.document(), -2);
            fault = 1 + 8 * row.length();
        } else {
            due("document", x.document(), Model.elements(row));
            document = row;
            fault = 0;
        }
        tape = "";
        due("fault", x.fault(), fault);
    }

    private void counts() {
        int what = random.nextInt(12) - 1;
        int told = 0;
        for (Model m : machines) {
            told += m == null ? 0 : 1;
        }
        boolean none = reader == null;
        int[] want = {NONE, told, Model.elements(document), depth(document), Model.elements(out), depth(out),
            none ? 0 : came, none ? 0 : config.depth(), none ? 0 : config.held(), none ? 0 : most, tape.length(), NONE};
        due("count " + what, x.count(what), want[what + 1]);
        boolean ofOut = random.nextBoolean();
        List<Integer> events = Model.events(ofOut ? out : document);
        int i = random.nextInt(events.size() + 2) - 1;
        due("event " + i, x.event(i, ofOut), i >= 0 && i < events.size() ? events.get(i) : NONE);
    }

    private static int depth(String row) {
        int depth = 0;
        int most = 0;
        for (int event : Model.events(row)) {
            depth += event == 3 ? -1 : 1;
            most = Math.max(most, depth);
        }
        return most;
    }

    private void readingCalls() {
        int kind = random.nextInt(8);
        if (kind == 0 && (reader == null || random.nextInt(4) == 0)) {
            int k = slot();
            Model m = told(k);
            due("begin " + k, x.begin(k), m == null ? NONE : 0);
            if (m != null) {
                reader = m;
                config = m.fresh(0);
                came = 0;
                most = 0;
            }
        } else if (kind == 1) {
            String end = reader == null ? null : reader.end(config);
            due("finish", x.finish(), end == null ? NONE : Model.elements(end));
            if (end != null) {
                out = end;
                reader = null;
            }
        } else {
            for (int i = random.nextInt(6); i >= 0; i--) {
                step(random.nextInt(30) == 0 ? 4 : random.nextInt(3) == 0 ? 3 : random.nextInt(4));
            }
        }
        due("state", x.state(), reader == null ? NONE : config.state);
        peek();
    }

    private void step(int event) {
        if (reader == null || event > 3) {
            due("next " + event, x.next(event), NONE);
        } else if (event == 3 && config.under == null || event < 3 && config.depth() >= 60) {
            due("next " + event, x.next(event), -2);
        } else {
            Model.Config then = reader.step(config, event);
            due("next " + event, x.next(event), then == null ? NONE : then.state);
            if (then != null) {
                config = then;
                came++;
                most = Math.max(most, config.held());
            }
        }
    }

    private void peek() {
        int d = random.nextInt(5) - 2;
        int register = random.nextInt(4);
        Model.Config at = reader == null || d < -1 || register >= reader.registers ? null : config;
        for (int i = 0; i <= d && at != null; i++) {
            at = at.under;
        }
        List<Integer> events = at == null ? new ArrayList<>() : Model.events(at.registers[register]);
        int i = random.nextInt(events.size() + 3) - 2;
        int want = at == null ? NONE : i == NONE ? events.size() : i >= 0 && i < events.size() ? events.get(i) : NONE;
        due("held " + d + " " + register + " " + i, x.held(d, register, i), want);
    }

    private void documentCalls() {
        int k = slot();
        int l = slot();
        Model a = told(k);
        Model b = told(l);
        String one = a == null ? null : a.run(document);
        String two = one == null || b == null ? null : b.run(one);
        switch (random.nextInt(7)) {
            case 0:
                due("run " + k, x.run(k), one == null ? NONE : Model.elements(one));
                out = one == null ? out : one;
                break;
            case 1:
                due("through " + k + " " + l, x.through(k, l), two == null ? NONE : Model.elements(two));
                out = two == null ? out : two;
                break;
            case 2:
                due("refused " + k, x.refused(k), a == null ? -2 : a.refusal(document));
                break;
            case 3:
                due("ahead " + k + " " + l, x.ahead(k, l), a == null || b == null ? NONE : two == null ? 0 : 1);
                break;
            case 4:
                due("peak " + k, x.peak(k), a == null ? NONE : a.peak(document));
                break;
            case 5:
                boolean fits = Model.elements(out) <= 40;
                due("take", x.take(), fits ? Model.elements(out) : NONE);
                document = fits ? out : document;
                break;
            default:
                search(k, l);
        }
    }

    private void search(int k, int l) {
        Model a = told(k);
        Model b = told(l);
        int n = random.nextInt(6) - 1;
        boolean spoils = random.nextBoolean();
        int want = NONE;
        for (int size = 0; size <= n && n <= 4 && a != null && b != null && want == NONE; size++) {
            for (String row : Model.documents(size)) {
                String one = a.run(row);
                String two = spoils ? (one == null ? "" : b.run(one)) : b.run(row);
                if (spoils ? two == null : one == null ? two != null : !one.equals(two)) {
                    want = size;
                    document = row;
                    break;
                }
            }
        }
        want = a == null || b == null || n < 0 || n > 4 ? -2 : want;
        due((spoils ? "spoils " : "differ ") + k + " " + l + " " + n, spoils ? x.spoils(k, l, n) : x.differ(k, l, n), want);
    }

    private void machineCalls() {
        int k = slot();
        Model a = told(k);
        int n = random.nextInt(5);
        long many = NONE;
        if (a != null) {
            many = 0;
            for (String row : Model.documents(n)) {
                many += a.refusal(row) == NONE ? 1 : 0;
            }
        }
        due("many " + k + " " + n, x.many(k, n), many);
        due("of " + k, x.of(k, 0), a == null ? NONE : a.states);
        due("of " + k, x.of(k, 1), a == null ? NONE : a.registers);
        due("of " + k, x.of(k, 2), a == null ? NONE : a.opens.size());
        due("of " + k, x.of(k, 3), a == null ? NONE : a.closes.size());
        due("of " + k, x.of(k, 4), a == null ? NONE : a.ends.size());
        int close = 0;
        int end = 0;
        if (a != null) {
            for (Model.Closing rule : a.closes.values()) {
                close = Math.max(close, Model.elements(String.join("", rule.expressions)));
            }
            for (String expression : a.ends.values()) {
                end = Math.max(end, Model.elements(expression));
            }
        }
        due("of " + k, x.of(k, 5), a == null ? NONE : Math.max(close, end));
        due("bound " + k, x.bound(k, n * 7), a == null ? NONE : n * 7 * close + end);
    }
}
