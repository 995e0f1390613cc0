import java.util.ArrayList;
import java.util.HashMap;
import java.util.HashSet;
import java.util.List;
import java.util.Map;
import java.util.Random;
import java.util.Set;

/** MACHINES and DOCUMENTS made at random: every answer against the plainest way to come by it. */
public final class OracleTest {
    private static final int NONE = TreeStream.NONE;
    private static final List<List<String>> DOCUMENTS = new ArrayList<>();

    private static Check check;
    private static int spoilt;
    private static int kept;
    private static int differing;
    private static int alike;

    public static void main(String[] args) {
        int rounds = args.length > 0 ? Integer.parseInt(args[0]) : 250;
        int seed = args.length > 1 ? Integer.parseInt(args[1]) : 0;
        check = new Check();
        for (int n = 0; n <= 5; n++) {
            DOCUMENTS.add(Model.documents(n));
        }
        for (int i = 0; i < rounds; i++) {
            Random random = new Random(seed + i);
            wholeDocuments(random);
            machines(random);
            reading(random);
            searches(random);
            safety(random);
        }
        System.out.println("spoilt " + spoilt + ", kept " + kept + ", differing " + differing + ", alike " + alike);
        check.due("of every kind", spoilt > 0 && kept > 0 && differing > 0 && alike > 0 ? 1 : 0, 1);
        check.ends();
    }

    private static TreeStream with(Model... models) {
        TreeStream x = new TreeStream();
        for (int k = 0; k < models.length; k++) {
            check.due("machine " + models[k].text(), Check.tell(x, k, models[k].text()), models[k].ruleTexts.size());
        }
        return x;
    }

    private static void wholeDocuments(Random random) {
        Model a = Model.random(random, 6, 3);
        Model b = Model.random(random, 3, 3);
        TreeStream x = with(a, b);
        String out = "";
        for (int i = 0; i < 20; i++) {
            String row = Model.randomDocument(random, random.nextInt(41), 1 + random.nextInt(3));
            check.due("document " + row, Check.give(x, row), Model.elements(row));
            String made = a.run(row);
            String behind = made == null ? null : b.run(made);
            String what = a.text() + " on " + row;
            check.due("refused " + what, x.refused(0), a.refusal(row));
            check.due("peak " + what, x.peak(0), a.peak(row));
            check.due("ahead " + what, x.ahead(0, 1), behind == null ? 0 : 1);
            check.due("run " + what, x.run(0), made == null ? NONE : Model.elements(made));
            out = made == null ? out : made;
            check.due("OUT " + what, Check.shown(x, true), out);
            if (made != null) {
                check.due("bound " + what, x.bound(0, Model.elements(row)) >= Model.elements(made) ? 1 : 0, 1);
            }
            check.due("through " + what, x.through(0, 1), behind == null ? NONE : Model.elements(behind));
            out = behind == null ? out : behind;
            check.due("OUT behind " + what, Check.shown(x, true), out);
        }
    }

    private static void machines(Random random) {
        Model a = Model.random(random, 6, 1);
        TreeStream x = with(a);
        int least = NONE;
        for (int n = 5; n >= 0; n--) {
            int many = 0;
            for (String row : DOCUMENTS.get(n)) {
                many += a.refusal(row) == NONE ? 1 : 0;
            }
            check.due("many " + n + " " + a.text(), x.many(0, n), many);
            least = many > 0 ? n : least;
        }
        int told = x.least(0);
        check.due("least " + a.text(), told > 5 ? NONE : told, least);
        check.due("states " + a.text(), x.states(0), states(a));
        for (int n = 6; n <= 16; n++) {
            check.due("least and many " + a.text(), x.many(0, n) > 0 && (told == NONE || told > n) ? 1 : 0, 0);
        }
        if (told > 5 && told <= 16) {
            check.due("least and many " + a.text(), x.many(0, told) > 0 ? 1 : 0, 1);
        }
    }

    /** By sets of pairs that grow: from STATE to STATE with THE STACK as it was. */
    private static int states(Model m) {
        Set<String> pairs = new HashSet<>();
        for (int q = 0; q < m.states; q++) {
            pairs.add(q + " " + q);
        }
        boolean grows = true;
        while (grows) {
            Set<String> more = new HashSet<>(pairs);
            for (Map.Entry<String, int[]> open : m.opens.entrySet()) {
                String[] of = open.getKey().split(" ");
                for (int t = 0; t < m.states; t++) {
                    Model.Closing close = m.closes.get(of[0] + " " + t + " " + open.getValue()[1]);
                    if (close != null && pairs.contains(open.getValue()[0] + " " + t)) {
                        for (int p = 0; p < m.states; p++) {
                            if (pairs.contains(p + " " + of[1])) {
                                more.add(p + " " + close.to);
                            }
                        }
                    }
                }
            }
            grows = more.size() > pairs.size();
            pairs = more;
        }
        int bits = 1;
        for (int round = 0; round < 12; round++) {
            for (int q = 0; q < m.states; q++) {
                for (int r = 0; r < m.states; r++) {
                    boolean opens = false;
                    for (int l = 0; l < 3; l++) {
                        int[] open = m.opens.get(l + " " + q);
                        opens = opens || open != null && open[0] == r;
                    }
                    if ((bits >> q & 1) == 1 && (opens || pairs.contains(q + " " + r))) {
                        bits |= 1 << r;
                    }
                }
            }
        }
        return bits;
    }

    private static void reading(Random random) {
        Model a = Model.random(random, 4, 3);
        TreeStream x = with(a);
        Model.Config c = a.fresh(0);
        check.due("begin", x.begin(0), 0);
        int came = 0;
        int most = 0;
        for (int i = 0; i < 60; i++) {
            int event = random.nextInt(random.nextBoolean() ? 4 : 2) == 1 ? 3 : random.nextInt(4);
            boolean bare = event == 3 && c.under == null;
            Model.Config n = a.step(c, event);
            check.due("next " + event + " " + a.text(), x.next(event), bare ? -2 : n == null ? NONE : n.state);
            if (n != null) {
                c = n;
                came++;
                most = Math.max(most, c.held());
            }
            check.due("state", x.state(), c.state);
            check.due("came", x.count(5), came);
            check.due("marks", x.count(6), c.depth());
            check.due("held", x.count(7), c.held());
            check.due("most", x.count(8), most);
            int d = NONE;
            for (Model.Config at = c; at != null; at = at.under) {
                for (int r = 0; r < a.registers; r++) {
                    check.due("held " + d + " " + r + " " + a.text(), Check.shownHeld(x, d, r), at.registers[r]);
                }
                d++;
            }
            check.due("no such mark", x.held(d, 0, NONE), NONE);
        }
        String out = a.end(c);
        check.due("finish", x.finish(), out == null ? NONE : Model.elements(out));
        check.due("OUT", Check.shown(x, true), out == null ? "" : out);
        check.due("state", x.state(), out == null ? c.state : NONE);
    }

    private static void searches(Random random) {
        Model a = Model.random(random, 3, 2);
        Model b = random.nextBoolean() ? Model.random(random, 3, 2) : nearly(random, a);
        TreeStream x = with(a, b);
        search(x, a, b, random.nextInt(5), false);
        search(x, a, b, random.nextInt(5), true);
        search(x, a, b, 4, false);
        search(x, a, b, 4, true);
    }

    /** The same MACHINE but for one RULE. */
    private static Model nearly(Random random, Model a) {
        Model b = new Model();
        b.states = a.states;
        b.registers = a.registers;
        b.opens.putAll(a.opens);
        b.closes.putAll(a.closes);
        b.ends.putAll(a.ends);
        b.ruleTexts.addAll(a.ruleTexts);
        if (b.ruleTexts.isEmpty()) {
            return b;
        }
        String gone = b.ruleTexts.remove(random.nextInt(b.ruleTexts.size()));
        String[] words = gone.split("[ =]+", -1);
        if (words[0].equals("open")) {
            b.opens.remove((words[1].charAt(0) - 'a') + " " + words[2]);
        } else if (words[0].equals("close")) {
            b.closes.remove((words[1].charAt(0) - 'a') + " " + words[2] + " " + words[3]);
        } else {
            b.ends.remove(Integer.parseInt(words[1]));
        }
        return b;
    }

    private static void search(TreeStream x, Model a, Model b, int n, boolean spoils) {
        Check.give(x, "<c<c<c>>>");
        String first = null;
        for (int size = 0; size <= n && first == null; size++) {
            for (String row : DOCUMENTS.get(size)) {
                String one = a.run(row);
                String two = spoils ? (one == null ? "" : b.run(one)) : b.run(row);
                boolean hit = spoils ? two == null : (one == null ? two != null : !one.equals(two));
                if (hit) {
                    first = row;
                    break;
                }
            }
        }
        String what = (spoils ? "spoils " : "differ ") + n + " " + a.text() + " | " + b.text();
        check.due(what, spoils ? x.spoils(0, 1, n) : x.differ(0, 1, n), first == null ? NONE : Model.elements(first));
        check.due("first of " + what, Check.shown(x, false), first == null ? "<c<c<c>>>" : first);
        if (!spoils) {
            differing += first == null ? 0 : 1;
            alike += first == null ? 1 : 0;
        }
    }

    private static void safety(Random random) {
        Model a = Model.random(random, 3, 2);
        Model b = Model.random(random, 2, 1);
        TreeStream x = with(a, b);
        String witness = witness(a, b);
        check.due("safe " + a.text() + " | " + b.text(), x.safe(0, 1), witness == null ? 1 : 0);
        spoilt += witness == null ? 0 : 1;
        kept += witness == null ? 1 : 0;
        if (witness != null) {
            check.due("witness", b.run(a.run(witness)) == null ? 1 : 0, 1);
        } else {
            check.due("no witness", x.spoils(0, 1, 4), NONE);
        }
    }

    /**
     * A DOCUMENT by which a SPOILS for b. True rows of ELEMENTS are kept, one for each begin, each
     * STATE behind it, and each thing that the rows in the REGISTERS do to b.
     */
    private static String witness(Model a, Model b) {
        Map<String, String> rows = new HashMap<>();
        for (int q = 0; q < a.states; q++) {
            rows.put(key(a, b, q, ""), "");
        }
        boolean grows = true;
        while (grows) {
            grows = false;
            List<String> keys = new ArrayList<>(rows.keySet());
            for (String outer : keys) {
                int begin = outer.charAt(0) - '0';
                for (int l = 0; l < 3; l++) {
                    int[] open = a.opens.get(l + " " + outer.charAt(1));
                    for (String inner : keys) {
                        if (open == null || inner.charAt(0) - '0' != open[0]) {
                            continue;
                        }
                        String row = rows.get(outer) + "<" + "abc".charAt(l) + rows.get(inner) + ">";
                        String key = key(a, b, begin, row);
                        if (key != null && !rows.containsKey(key)) {
                            rows.put(key, row);
                            grows = true;
                        }
                    }
                }
            }
        }
        for (Map.Entry<String, String> row : rows.entrySet()) {
            String out = row.getKey().charAt(0) == '0' ? a.run(row.getValue()) : null;
            if (out != null && b.run(out) == null) {
                return row.getValue();
            }
        }
        return null;
    }

    /** Null: the row can't be READ from there. */
    private static String key(Model a, Model b, int begin, String row) {
        Model.Config c = a.after(a.fresh(begin), row);
        if (c == null) {
            return null;
        }
        StringBuilder key = new StringBuilder("" + begin + c.state);
        for (String register : c.registers) {
            for (int q = 0; q < b.states; q++) {
                Model.Config end = b.after(b.fresh(q), register);
                key.append(end == null ? "-" : "" + end.state);
            }
        }
        return key.toString();
    }
}
