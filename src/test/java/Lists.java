import java.util.ArrayList;
import java.util.List;
import java.util.Random;

/** Makes lists by chance, always the same ones from the same seed; most are right, some nearly so. */
final class Lists {
    private final Random random;
    private final List<String> row = new ArrayList<>();
    private int taverns;
    private int roads;
    private int rumours;
    private int hour;

    Lists(Random random) {
        this.random = random;
    }

    String make(int hourNow) {
        row.clear();
        hour = hourNow;
        boolean large = chance(3);
        taverns = 0;
        roads = 0;
        rumours = 0;
        int beyond = chance(8) ? 1 : 0;
        int wantTaverns = large ? 7 + random.nextInt(4 + beyond) : 1 + random.nextInt(6);
        int wantRoads = wantTaverns < 2 ? 0 : random.nextInt(large ? 15 + beyond : 2 * wantTaverns);
        int wantRumours = random.nextInt(large ? 7 + beyond : 4);
        for (; taverns < wantTaverns; taverns++) {
            add("tavern t" + taverns + " ;");
        }
        for (; roads < wantRoads; roads++) {
            int a = random.nextInt(taverns);
            int b = (a + 1 + random.nextInt(taverns - 1)) % taverns;
            int miles = chance(2) ? 1 + random.nextInt(4) : 1 + random.nextInt(30);
            add("road r" + roads + " from t" + a + " to t" + b + " miles " + miles + " ;");
        }
        for (; rumours < wantRumours; rumours++) {
            int on = chance(4) ? random.nextInt(100) : Math.min(99, hour + random.nextInt(12));
            add("rumour s" + rumours + " at t" + random.nextInt(taverns) + " on " + on + " ;");
        }
        int orders = random.nextInt(chance(4) ? 21 + beyond : 6);
        for (int i = 0; i < orders && row.size() < 360 + 60 * beyond; i++) {
            order(beyond > 0 ? 420 : 395);
        }
        if (chance(4)) {
            spoil();
        }
        return text();
    }

    /** A row of tokens without sense. */
    String nonsense() {
        row.clear();
        int n = random.nextInt(12);
        for (int i = 0; i < n; i++) {
            row.add(anyToken());
        }
        return text();
    }

    private boolean chance(int of) {
        return random.nextInt(of) == 0;
    }

    private void add(String tokens) {
        row.addAll(List.of(tokens.split(" ")));
    }

    private String tavern() {
        return "t" + random.nextInt(taverns);
    }

    private void order(int most) {
        int from = row.size();
        int kind = random.nextInt(3);
        if (kind < 2 && roads == 0) {
            kind = 2;
        }
        String name = kind == 2 ? tavern() : "r" + random.nextInt(roads);
        add((kind == 0 ? "hurt " : kind == 1 ? "mend " : "hush ") + name);
        if (kind == 0) {
            add("by");
            sum(chance(5) ? 6 : 1);
        }
        add("when");
        test(chance(5) ? 6 : 2);
        add(";");
        if (row.size() > most) {
            row.subList(from, row.size()).clear();
        }
    }

    private void test(int depth) {
        single(depth);
        while (chance(4)) {
            add(chance(2) ? "or" : "and");
            single(depth);
        }
    }

    private void single(int depth) {
        int which = random.nextInt(depth > 0 ? 9 : 7);
        if (which == 0 && roads > 0) {
            add("open r" + random.nextInt(roads));
        } else if (which == 1 && rumours > 0) {
            add("knows " + tavern() + " s" + random.nextInt(rumours));
        } else if (which == 2) {
            add("parted " + tavern() + " " + tavern());
        } else if (which == 3) {
            add("hour " + compare() + " " + (hour + random.nextInt(20)));
        } else if (which == 7) {
            add("not");
            single(depth - 1);
        } else if (which == 8) {
            add("[");
            test(depth - 1);
            add("]");
        } else {
            sum(depth);
            add(compare());
            sum(depth);
        }
    }

    private String compare() {
        return new String[] {"<", ">", "=", "<=", ">="}[random.nextInt(5)];
    }

    private void sum(int depth) {
        value(depth);
        while (chance(3)) {
            add(new String[] {"+", "-", "*", "/"}[random.nextInt(4)]);
            value(depth);
        }
    }

    private void value(int depth) {
        int which = random.nextInt(depth > 0 ? 9 : 6);
        if (which == 0 && roads > 0) {
            add((chance(2) ? "length r" : "wounds r") + random.nextInt(roads));
        } else if (which == 1 && rumours > 0) {
            add("heard s" + random.nextInt(rumours));
        } else if (which == 2) {
            add("far " + tavern() + " " + tavern());
        } else if (which == 3) {
            add("hour");
        } else if (which == 6) {
            add("-");
            value(depth - 1);
        } else if (which == 7) {
            add("(");
            sum(depth - 1);
            add(")");
        } else if (which == 8) {
            add(chance(2) ? "min (" : "max (");
            sum(depth - 1);
            add(",");
            sum(depth - 1);
            add(")");
        } else {
            add(chance(8) ? Integer.toString(random.nextInt(1000000)) : Integer.toString(random.nextInt(6)));
        }
    }

    private void spoil() {
        for (int times = chance(3) ? 2 : 1; times > 0 && !row.isEmpty(); times--) {
            int place = random.nextInt(row.size());
            int how = random.nextInt(14);
            if (how > 5) {
                misname(place);
            } else if (how == 0) {
                row.remove(place);
            } else if (how == 1) {
                row.add(place, anyToken());
            } else if (how == 2) {
                row.add(random.nextInt(row.size()), row.get(place));
            } else if (how == 3) {
                row.set(place, row.get(random.nextInt(row.size())));
            } else if (how == 4) {
                row.subList(place, row.size()).clear();
            } else {
                row.set(place, anyToken());
            }
        }
    }

    /** Puts a name or number in the place of the next one: so the grammar stays right. */
    private void misname(int from) {
        for (int place = from; place < row.size(); place++) {
            String token = row.get(place);
            if (token.matches("[trs][0-9]+")) {
                row.set(place, (chance(5) ? "x" : token.substring(0, 1)) + random.nextInt(15));
                return;
            }
            if (token.matches("[0-9]+")) {
                row.set(place, new String[] {"0", "1", "30", "31", "99", "100", "000007", "999999"}[random.nextInt(8)]);
                return;
            }
        }
    }

    private String anyToken() {
        String[] some = {"tavern", "road", "from", "to", "miles", "rumour", "at", "on", "hurt", "by", "mend", "hush",
            "when", "hour", "length", "wounds", "far", "heard", "open", "knows", "parted", "not", "and", "or", "min",
            "max", "(", ")", "[", "]", ";", ",", "+", "-", "*", "/", "<", ">", "=", "<=", ">=", "0", "31", "100",
            "999999", "1000000", "t0", "r0", "s0", "t10", "r14", "s6", "x", "abcdefghij", "abcdefghijk", "7up", "A",
            "#", "\t", "_", "\0", "\u00e9", "tavernx", "min2", "=<", "==", "not not", "- -", "( (", "[ ["};
        return some[random.nextInt(some.length)];
    }

    /** Puts the tokens together, with as few blanks as can be or with more. */
    private String text() {
        StringBuilder text = new StringBuilder();
        boolean tight = chance(2);
        for (String token : row) {
            if (!tight || needsBlank(text, token)) {
                text.append(chance(10) ? '\n' : ' ');
            } else if (chance(30)) {
                text.append("  ");
            }
            text.append(token);
        }
        if (text.length() > 1990) {
            text.setLength(1990);
        }
        return text.toString();
    }

    private boolean needsBlank(StringBuilder text, String token) {
        if (text.length() == 0) {
            return false;
        }
        char last = text.charAt(text.length() - 1);
        char first = token.charAt(0);
        boolean word = Character.isLetterOrDigit(last) && Character.isLetterOrDigit(first);
        return word || (last == '<' || last == '>') && first == '=';
    }
}
