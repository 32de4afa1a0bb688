import java.util.ArrayList;
import java.util.HashMap;
import java.util.HashSet;
import java.util.LinkedHashSet;
import java.util.List;
import java.util.Map;
import java.util.Set;

/** The document once more, as slow and plain as can be, to compare the class with. */
final class Model {
    static final Set<String> KEYWORDS = Set.of("tavern", "road", "from", "to", "miles", "rumour", "at", "on", "hurt",
            "by", "mend", "hush", "when", "hour", "length", "wounds", "far", "heard", "open", "knows", "parted", "not",
            "and", "or", "min", "max");
    static final Set<String> SYMBOLS = Set.of("(", ")", "[", "]", ";", ",", "+", "-", "*", "/", "<", ">", "=", "<=",
            ">=");

    static final class Token {
        String kind;
        String text;
        int place;
    }

    static final class Walker {
        int road;
        int goal;
        int rumour;
        int miles;
    }

    // ---- what was told
    StringBuilder tape = new StringBuilder();
    int error = -1;
    List<Token> tokens = new ArrayList<>();
    Map<String, Integer> taverns = new HashMap<>();
    Map<String, Integer> roads = new HashMap<>();
    Map<String, Integer> rumours = new HashMap<>();
    List<int[]> told = new ArrayList<>();
    List<int[]> rumourLines = new ArrayList<>();
    List<Integer> orders = new ArrayList<>();
    // ---- what changes
    int hour = 0;
    int[] miles = {};
    int[] wounds = {};
    Map<Integer, Integer> since = new HashMap<>();
    Set<Integer> sent = new HashSet<>();
    List<Walker> walkers = new ArrayList<>();
    int lost = 0;
    int carried = 0;

    Model copy() {
        Model m = new Model();
        m.tape = tape;
        m.tokens = tokens;
        m.taverns = taverns;
        m.roads = roads;
        m.rumours = rumours;
        m.told = told;
        m.rumourLines = rumourLines;
        m.orders = orders;
        m.hour = hour;
        m.miles = miles.clone();
        m.wounds = wounds.clone();
        m.since = new HashMap<>(since);
        m.sent = new HashSet<>(sent);
        for (Walker w : walkers) {
            Walker c = new Walker();
            c.road = w.road;
            c.goal = w.goal;
            c.rumour = w.rumour;
            c.miles = w.miles;
            m.walkers.add(c);
        }
        m.lost = lost;
        m.carried = carried;
        return m;
    }

    // ---- tokens

    static List<Token> tokensOf(String text) {
        List<Token> row = new ArrayList<>();
        int place = 0;
        while (true) {
            while (place < text.length() && (text.charAt(place) == 32 || text.charAt(place) == 10)) {
                place++;
            }
            Token t = new Token();
            t.place = place;
            t.text = "";
            row.add(t);
            if (place == text.length()) {
                t.kind = "END";
                return row;
            }
            int end = place;
            String rest = text.substring(place);
            String word = rest.replaceFirst("(?s)^([a-z][a-z0-9]*)?.*$", "$1");
            String number = rest.replaceFirst("(?s)^([0-9]*).*$", "$1");
            if (!word.isEmpty()) {
                end += word.length();
                t.kind = word.length() > 10 ? "WRONG" : KEYWORDS.contains(word) ? word : "NAME";
            } else if (!number.isEmpty()) {
                end += number.length();
                t.kind = number.length() > 6 ? "WRONG" : "NUMBER";
            } else if (rest.length() > 1 && SYMBOLS.contains(rest.substring(0, 2))) {
                end += 2;
                t.kind = rest.substring(0, 2);
            } else if (SYMBOLS.contains(rest.substring(0, 1))) {
                end += 1;
                t.kind = rest.substring(0, 1);
            } else {
                t.kind = "WRONG";
            }
            if (row.size() == 401) {
                t.kind = "WRONG";
            }
            if (t.kind.equals("WRONG")) {
                return row;
            }
            t.text = text.substring(place, end);
            place = end;
        }
    }

    // ---- the grammar, as rules for a recogniser that follows all beginnings at once (Earley's)

    private static final Map<String, String[][]> RULES = new HashMap<>();

    private static void rule(String left, String... rights) {
        String[][] rows = new String[rights.length][];
        for (int i = 0; i < rights.length; i++) {
            rows[i] = rights[i].isEmpty() ? new String[0] : rights[i].split(" ");
        }
        RULES.put(left, rows);
    }

    static {
        rule("List", "", "List Line ;");
        rule("Line", "tavern NAME", "road NAME from NAME to NAME miles NUMBER", "rumour NAME at NAME on NUMBER",
                "hurt NAME by Sum0 when Test0", "mend NAME when Test0", "hush NAME when Test0");
        for (int d = 0; d <= 8; d++) {
            String n = d == 8 ? "" : Integer.toString(d + 1);
            rule("Test" + d, "Both" + d, "Test" + d + " or Both" + d);
            rule("Both" + d, "Single" + d, "Both" + d + " and Single" + d);
            rule("Sum" + d, "Product" + d, "Sum" + d + " + Product" + d, "Sum" + d + " - Product" + d);
            rule("Product" + d, "Value" + d, "Product" + d + " * Value" + d, "Product" + d + " / Value" + d);
            List<String> single = new ArrayList<>(List.of("open NAME", "knows NAME NAME", "parted NAME NAME"));
            for (String sign : List.of("<", ">", "=", "<=", ">=")) {
                single.add("Sum" + d + " " + sign + " Sum" + d);
            }
            List<String> value = new ArrayList<>(List.of("NUMBER", "hour", "length NAME", "wounds NAME", "heard NAME",
                    "far NAME NAME"));
            if (d < 8) {
                single.add("not Single" + n);
                single.add("[ Test" + n + " ]");
                value.add("- Value" + n);
                value.add("( Sum" + n + " )");
                value.add("min ( Sum" + n + " , Sum" + n + " )");
                value.add("max ( Sum" + n + " , Sum" + n + " )");
            } else {
                // the document has the error at the bracket, not ahead of it
                value.add("min NEVER");
                value.add("max NEVER");
            }
            rule("Single" + d, single.toArray(new String[0]));
            rule("Value" + d, value.toArray(new String[0]));
        }
    }

    private record Item(String left, int right, int dot, int origin) {
        String behindDot() {
            String[] row = RULES.get(left)[right];
            return dot < row.length ? row[dot] : null;
        }

        Item moved() {
            return new Item(left, right, dot + 1, origin);
        }
    }

    /** The first token with which those so far are no beginning of a list; -1 if they are a list. */
    static int wrongToken(List<Token> row) {
        List<List<Item>> all = new ArrayList<>();
        LinkedHashSet<Item> seeds = new LinkedHashSet<>();
        seeds.add(new Item("List", 0, 0, 0));
        seeds.add(new Item("List", 1, 0, 0));
        for (int at = 0; at < row.size(); at++) {
            LinkedHashSet<Item> set = new LinkedHashSet<>(seeds);
            List<Item> todo = new ArrayList<>(seeds);
            all.add(todo);
            boolean ends = false;
            LinkedHashSet<Item> behind = new LinkedHashSet<>();
            for (int i = 0; i < todo.size(); i++) {
                Item item = todo.get(i);
                String sign = item.behindDot();
                List<Item> found = new ArrayList<>();
                if (sign == null) {
                    ends |= item.left().equals("List") && item.origin() == 0;
                    for (Item waiting : new ArrayList<>(all.get(item.origin()))) {
                        if (item.left().equals(waiting.behindDot())) {
                            found.add(waiting.moved());
                        }
                    }
                } else if (RULES.containsKey(sign)) {
                    for (int r = 0; r < RULES.get(sign).length; r++) {
                        found.add(new Item(sign, r, 0, at));
                    }
                } else if (sign.equals(row.get(at).kind)) {
                    behind.add(item.moved());
                }
                for (Item f : found) {
                    if (set.add(f)) {
                        todo.add(f);
                    }
                }
            }
            if (row.get(at).kind.equals("END")) {
                return ends ? -1 : at;
            }
            if (behind.isEmpty()) {
                return at;
            }
            seeds = behind;
        }
        throw new AssertionError("a row of tokens has an end");
    }

    // ---- teaching

    int teach() {
        List<Token> row = tokensOf(tape.toString());
        tape = new StringBuilder();
        int wrong = wrongToken(row);
        if (wrong >= 0) {
            error = row.get(wrong).place;
            return 1;
        }
        Model fresh = new Model();
        fresh.tokens = row;
        int number = fresh.lookAtNames();
        if (number != 0) {
            error = fresh.error;
            return number;
        }
        error = -1;
        tokens = row;
        taverns = fresh.taverns;
        roads = fresh.roads;
        rumours = fresh.rumours;
        told = fresh.told;
        rumourLines = fresh.rumourLines;
        orders = fresh.orders;
        miles = new int[told.size()];
        wounds = new int[told.size()];
        for (int r = 0; r < miles.length; r++) {
            miles[r] = told.get(r)[2];
        }
        since = new HashMap<>();
        sent = new HashSet<>();
        walkers = new ArrayList<>();
        lost = 0;
        carried = 0;
        return 0;
    }

    /** Goes over single tokens, each judged by those ahead of it; returns the first one's smallest error. */
    private int lookAtNames() {
        for (int i = 0; i + 1 < tokens.size(); i++) {
            int number = judge(i);
            if (number != 0) {
                error = tokens.get(i).place;
                return number;
            }
        }
        return 0;
    }

    private String kind(int i) {
        return i < 0 ? ";" : tokens.get(i).kind;
    }

    private int judge(int i) {
        Token t = tokens.get(i);
        String ahead = kind(i - 1);
        switch (t.kind) {
            case "hurt":
            case "mend":
            case "hush":
                orders.add(i);
                return orders.size() > 20 ? 4 : 0;
            case "NUMBER":
                int value = Integer.parseInt(t.text);
                if (ahead.equals("miles")) {
                    told.get(told.size() - 1)[2] = value;
                    return value < 1 || value > 30 ? 5 : 0;
                }
                if (ahead.equals("on")) {
                    rumourLines.get(rumourLines.size() - 1)[1] = value;
                    return value > 99 ? 5 : 0;
                }
                return 0;
            case "NAME":
                return judgeName(i, t.text, ahead);
            default:
                return 0;
        }
    }

    private int judgeName(int i, String name, String ahead) {
        switch (ahead) {
            case "tavern":
                return tellNew(taverns, name, 10);
            case "road":
                told.add(new int[3]);
                return tellNew(roads, name, 14);
            case "rumour":
                rumourLines.add(new int[2]);
                return tellNew(rumours, name, 6);
            case "from":
                told.get(told.size() - 1)[0] = taverns.getOrDefault(name, -1);
                break;
            case "to":
                if (taverns.containsKey(name) && told.get(told.size() - 1)[0] == taverns.get(name)) {
                    return 3;
                }
                told.get(told.size() - 1)[1] = taverns.getOrDefault(name, -1);
                break;
            case "at":
                rumourLines.get(rumourLines.size() - 1)[0] = taverns.getOrDefault(name, -1);
                break;
            default:
                break;
        }
        boolean second = ahead.equals("NAME");
        String by = second ? kind(i - 2) : ahead;
        Map<String, Integer> map;
        if (List.of("hurt", "mend", "open", "length", "wounds").contains(by)) {
            map = roads;
        } else if (by.equals("heard") || by.equals("knows") && second) {
            map = rumours;
        } else {
            map = taverns;
        }
        return map.containsKey(name) ? 0 : 3;
    }

    private static int tellNew(Map<String, Integer> map, String name, int most) {
        if (map.containsKey(name)) {
            return 2;
        }
        map.put(name, map.size());
        return map.size() > most ? 4 : 0;
    }

    // ---- roads

    boolean open(int r) {
        return wounds[r] < 3;
    }

    int length(int r) {
        return miles[r] + 2 * wounds[r];
    }

    /** All shortest ways (Floyd's), without one road; -1 where there is none. */
    int[][] ways(int without) {
        int n = taverns.size();
        int[][] d = new int[n][n];
        for (int a = 0; a < n; a++) {
            for (int b = 0; b < n; b++) {
                d[a][b] = a == b ? 0 : -1;
            }
        }
        for (int r = 0; r < miles.length; r++) {
            int a = told.get(r)[0];
            int b = told.get(r)[1];
            if (r != without && open(r) && (d[a][b] < 0 || length(r) < d[a][b])) {
                d[a][b] = length(r);
                d[b][a] = length(r);
            }
        }
        for (int m = 0; m < n; m++) {
            for (int a = 0; a < n; a++) {
                for (int b = 0; b < n; b++) {
                    if (d[a][m] >= 0 && d[m][b] >= 0 && (d[a][b] < 0 || d[a][m] + d[m][b] < d[a][b])) {
                        d[a][b] = d[a][m] + d[m][b];
                    }
                }
            }
        }
        return d;
    }

    int detour(int r) {
        return ways(r)[told.get(r)[0]][told.get(r)[1]];
    }

    boolean span(int r) {
        return open(r) && parts(r) > parts(-1);
    }

    int parts(int without) {
        int[][] d = ways(without);
        int parts = 0;
        for (int t = 0; t < d.length; t++) {
            parts += part(d, t) == t ? 1 : 0;
        }
        return parts;
    }

    static int part(int[][] d, int t) {
        for (int p = 0; p < d.length; p++) {
            if (d[t][p] >= 0) {
                return p;
            }
        }
        throw new AssertionError("a tavern is in its own part");
    }

    Set<Integer> net(int without) {
        List<Integer> row = new ArrayList<>();
        for (int r = 0; r < miles.length; r++) {
            if (r != without && open(r)) {
                row.add(r);
            }
        }
        row.sort((x, y) -> length(x) != length(y) ? Integer.compare(length(x), length(y)) : Integer.compare(x, y));
        Set<Integer> net = new LinkedHashSet<>();
        for (int r : row) {
            Set<Integer> reached = new HashSet<>(Set.of(told.get(r)[0]));
            for (int i = 0; i < taverns.size(); i++) {
                for (int o : net) {
                    if (reached.contains(told.get(o)[0]) || reached.contains(told.get(o)[1])) {
                        reached.add(told.get(o)[0]);
                        reached.add(told.get(o)[1]);
                    }
                }
            }
            if (!reached.contains(told.get(r)[1])) {
                net.add(r);
            }
        }
        return net;
    }

    int netLength() {
        int sum = 0;
        for (int r : net(-1)) {
            sum += length(r);
        }
        return sum;
    }

    int replace(int r) {
        if (!net(-1).contains(r)) {
            return -1;
        }
        Set<Integer> other = net(r);
        other.removeAll(net(-1));
        return other.isEmpty() ? -1 : other.iterator().next();
    }

    int step(int a, int b) {
        int[][] d = ways(-1);
        if (a == b || d[a][b] < 0) {
            return a == b ? a : -1;
        }
        for (int n = 0; n < d.length; n++) {
            for (int r = 0; r < miles.length; r++) {
                int[] t = told.get(r);
                boolean joins = t[0] == a && t[1] == n || t[1] == a && t[0] == n;
                if (joins && open(r) && d[n][b] >= 0 && length(r) + d[n][b] == d[a][b]) {
                    return n;
                }
            }
        }
        throw new AssertionError("a way has a first step");
    }

    double mean() {
        int sum = 0;
        int n = 0;
        for (int r = 0; r < miles.length; r++) {
            if (open(r)) {
                sum += length(r);
                n++;
            }
        }
        return n == 0 ? 0.0 : (double) sum / (double) n;
    }

    // ---- sums and tests, reckoned from the tokens themselves

    private int at;

    private String take() {
        return tokens.get(at++).kind;
    }

    private int index(Map<String, Integer> map) {
        return map.get(tokens.get(at++).text);
    }

    private boolean test() {
        boolean holds = both();
        while (kind(at).equals("or")) {
            at++;
            boolean other = both();
            holds = holds || other;
        }
        return holds;
    }

    private boolean both() {
        boolean holds = single();
        while (kind(at).equals("and")) {
            at++;
            boolean other = single();
            holds = holds && other;
        }
        return holds;
    }

    private boolean single() {
        boolean holds;
        switch (kind(at)) {
            case "not":
                at++;
                return !single();
            case "[":
                at++;
                holds = test();
                at++;
                return holds;
            case "open":
                at++;
                return open(index(roads));
            case "knows":
                at++;
                int tavern = index(taverns);
                return since.containsKey(tavern * 10 + index(rumours));
            case "parted":
                at++;
                int a = index(taverns);
                return ways(-1)[a][index(taverns)] < 0;
            default:
                int left = sum();
                String sign = take();
                int right = sum();
                return sign.equals("<") && left < right || sign.equals(">") && left > right
                        || sign.equals("=") && left == right || sign.equals("<=") && left <= right
                        || sign.equals(">=") && left >= right;
        }
    }

    private int sum() {
        long sum = product();
        while (kind(at).equals("+") || kind(at).equals("-")) {
            long sign = take().equals("+") ? 1 : -1;
            sum = (int) (sum + sign * product());
        }
        return (int) sum;
    }

    private int product() {
        long product = value();
        while (kind(at).equals("*") || kind(at).equals("/")) {
            boolean times = take().equals("*");
            long other = value();
            product = (int) (times ? product * other : other == 0 ? 0 : product / other);
        }
        return (int) product;
    }

    private int value() {
        String kind = take();
        int value;
        switch (kind) {
            case "NUMBER":
                return Integer.parseInt(tokens.get(at - 1).text);
            case "hour":
                return hour;
            case "length":
                return length(index(roads));
            case "wounds":
                return wounds[index(roads)];
            case "heard":
                return knowers(index(rumours));
            case "far":
                int a = index(taverns);
                return ways(-1)[a][index(taverns)];
            case "-":
                return (int) -(long) value();
            case "(":
                value = sum();
                at++;
                return value;
            default:
                at++;
                int left = sum();
                at++;
                int right = sum();
                at++;
                return kind.equals("min") == left < right ? left : right;
        }
    }

    // ---- hours

    int knowers(int rumour) {
        int n = 0;
        for (int t = 0; t < taverns.size(); t++) {
            n += since.containsKey(t * 10 + rumour) ? 1 : 0;
        }
        return n;
    }

    boolean hear(int t, int r) {
        return since.putIfAbsent(t * 10 + r, hour) == null;
    }

    int passOne() {
        Set<Integer> hushed = new HashSet<>();
        for (int order : orders) {
            giveOrder(order, hushed);
        }
        int before = walkers.size();
        walkers.removeIf(w -> !open(w.road));
        lost += before - walkers.size();
        int heard = 0;
        for (int r = 0; r < rumours.size(); r++) {
            heard += rumourLines.get(r)[1] == hour && hear(rumourLines.get(r)[0], r) ? 1 : 0;
        }
        for (Walker w : new ArrayList<>(walkers)) {
            w.miles++;
            if (w.miles >= length(w.road)) {
                walkers.remove(w);
                heard += hear(w.goal, w.rumour) ? 1 : 0;
            }
        }
        for (int t = 0; t < taverns.size(); t++) {
            for (int r = 0; r < rumours.size(); r++) {
                if (!hushed.contains(t) && since.containsKey(t * 10 + r) && sent.add(t * 10 + r)) {
                    send(t, r);
                }
            }
        }
        hour++;
        return heard;
    }

    private void send(int t, int r) {
        for (int road = 0; road < miles.length; road++) {
            int[] ends = told.get(road);
            if (open(road) && (ends[0] == t || ends[1] == t)) {
                Walker w = new Walker();
                w.road = road;
                w.goal = ends[0] + ends[1] - t;
                w.rumour = r;
                walkers.add(w);
            }
        }
    }

    private void giveOrder(int order, Set<Integer> hushed) {
        String kind = kind(order);
        at = order + 1;
        int target = index(kind.equals("hush") ? taverns : roads);
        int by = 0;
        if (kind.equals("hurt")) {
            at++;
            by = Math.min(3, Math.max(0, sum()));
        }
        at++;
        if (!test()) {
            return;
        }
        if (kind.equals("hush")) {
            carried += hushed.add(target) ? 1 : 0;
            return;
        }
        int before = wounds[target];
        wounds[target] = kind.equals("hurt") ? Math.min(3, before + by) : Math.max(0, before - 1);
        carried += wounds[target] != before ? 1 : 0;
    }

    int pass(int hours) {
        int heard = 0;
        for (int i = 0; i < hours; i++) {
            heard += passOne();
        }
        return heard;
    }

    // ---- what would be

    int until(int rumour) {
        Model m = copy();
        for (int h = 0; h <= 120; h++) {
            if (m.knowers(rumour) == taverns.size()) {
                return h;
            }
            m.passOne();
        }
        return -1;
    }

    int foresee(int hours, int what) {
        Model m = copy();
        m.pass(hours);
        return m.count(what);
    }

    int advise(int rumour, int hours) {
        Model without = copy();
        without.pass(hours);
        int most = without.knowers(rumour);
        int best = -1;
        for (int t = 0; t < taverns.size(); t++) {
            Model m = copy();
            if (m.hear(t, rumour)) {
                m.pass(hours);
                if (m.knowers(rumour) > most) {
                    most = m.knowers(rumour);
                    best = t;
                }
            }
        }
        return best;
    }

    int best() {
        int best = -1;
        long least = Long.MAX_VALUE;
        for (int r = 0; r < miles.length; r++) {
            if (wounds[r] > 0) {
                Model m = copy();
                m.wounds[r]--;
                long cost = m.parts(-1) * 100000L + m.netLength();
                if (cost < least) {
                    least = cost;
                    best = r;
                }
            }
        }
        return best;
    }

    // ---- what is told

    int count(int what) {
        int n = 0;
        switch (what) {
            case 0:
                return hour;
            case 1:
                return taverns.size();
            case 2:
                return roads.size();
            case 3:
                return rumours.size();
            case 4:
                return orders.size();
            case 5:
                for (int r = 0; r < miles.length; r++) {
                    n += open(r) ? 1 : 0;
                }
                return n;
            case 6:
                for (int r = 0; r < miles.length; r++) {
                    n += span(r) ? 1 : 0;
                }
                return n;
            case 7:
                return parts(-1);
            case 8:
                return walkers.size();
            case 9:
                return since.size();
            case 10:
                return carried;
            case 11:
                return netLength();
            case 12:
                for (int r = 0; r < miles.length; r++) {
                    n += span(r) && wounds[r] > 0 ? 1 : 0;
                }
                return n;
            case 13:
                return lost;
            default:
                return tape.length();
        }
    }

    int tavern(int t, int what) {
        int n = 0;
        int[][] d = ways(-1);
        switch (what) {
            case 0:
                for (int r = 0; r < miles.length; r++) {
                    n += open(r) && (told.get(r)[0] == t || told.get(r)[1] == t) ? 1 : 0;
                }
                return n;
            case 1:
                for (int r = 0; r < rumours.size(); r++) {
                    n += since.containsKey(t * 10 + r) ? 1 : 0;
                }
                return n;
            case 2:
                return part(d, t);
            default:
                for (int far : d[t]) {
                    n = Math.max(n, far);
                }
                return n;
        }
    }

    int road(int r, int what) {
        switch (what) {
            case 0:
            case 1:
                return told.get(r)[what];
            case 2:
                return miles[r];
            case 3:
                return wounds[r];
            case 4:
                return length(r);
            case 5:
                return open(r) ? 1 : 0;
            case 6:
                return span(r) ? 1 : 0;
            case 7:
                return net(-1).contains(r) ? 1 : 0;
            default:
                return (int) walkers.stream().filter(w -> w.road == r).count();
        }
    }

    int rumour(int r, int what) {
        switch (what) {
            case 0:
            case 1:
                return rumourLines.get(r)[what];
            case 2:
                return knowers(r);
            default:
                return (int) walkers.stream().filter(w -> w.rumour == r).count();
        }
    }

    long digest() {
        List<Integer> row = new ArrayList<>();
        for (int what = 0; what < 15; what++) {
            row.add(count(what));
        }
        for (int t = 0; t < taverns.size(); t++) {
            for (int what = 0; what < 4; what++) {
                row.add(tavern(t, what));
            }
            for (int r = 0; r < rumours.size(); r++) {
                row.add(since.getOrDefault(t * 10 + r, -1));
            }
        }
        for (int r = 0; r < roads.size(); r++) {
            for (int what = 0; what < 9; what++) {
                row.add(road(r, what));
            }
            row.add(detour(r));
            row.add(replace(r));
        }
        for (int r = 0; r < rumours.size(); r++) {
            for (int what = 0; what < 4; what++) {
                row.add(rumour(r, what));
            }
        }
        long d = 1697;
        for (int x : row) {
            d = d * 31 + x;
        }
        return d;
    }
}
