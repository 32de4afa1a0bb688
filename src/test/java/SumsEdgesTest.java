/** Edges of the sums and tests of orders: how they wrap around, divide, bind, and what they tell of the land. */
public final class SumsEdgesTest {
    private static final Edges E = new Edges();
    /** The greatest and the least number, put together so that nothing on the way wraps around. */
    private static final String MOST = "(214748*10000+3647)";
    private static final String LEAST = "(-214748*10000-3648)";

    private SumsEdgesTest() {
    }

    public static void main(String[] args) {
        wrapping();
        dividing();
        leastAndMost();
        binding();
        comparing();
        joining();
        facts();
        roadFacts();
        woundsBySums();
        E.end("SumsEdgesTest");
    }

    private static void holds(String head, String test) {
        E.test(head + ": " + test, () -> E.is("holds", Edges.holds(Edges.LAND, test) ? 1 : 0, 1));
    }

    private static void holdsNot(String head, String test) {
        E.test(head + ": not " + test, () -> E.is("holds", Edges.holds(Edges.LAND, test) ? 1 : 0, 0));
    }

    private static void wrapping() {
        String sums = "Terms, sums wrap around in 32 bits";
        holds(sums, MOST + "+1=" + LEAST);
        holds(sums, LEAST + "+" + LEAST + "=0");
        holds(sums, MOST + "+" + MOST + "=-2");
        holds(sums, MOST + "+1<0");
        holds(sums + ", but not ahead of the greatest number", MOST + "-1+1=" + MOST);
        holds(sums + ", but not ahead of the greatest number", MOST + ">0");
        String differences = "Terms, differences wrap around in 32 bits";
        holds(differences, LEAST + "-1=" + MOST);
        holds(differences, "0-" + LEAST + "=" + LEAST);
        holds(differences, MOST + "-" + LEAST + "=-1");
        holds(differences, LEAST + "-1>0");
        holds(differences + ", but not ahead of the least number", LEAST + "+1-1=" + LEAST);
        holds(differences + ", but not ahead of the least number", LEAST + "<0");
        String products = "Terms, products wrap around in 32 bits";
        holds(products, "65536*65536=0");
        holds(products, "65536*32768=" + LEAST);
        holds(products, "65536*32767+65535=" + MOST);
        holds(products, MOST + "*2=-2");
        holds(products, LEAST + "*-1=" + LEAST);
        holds(products, "999999*999999=-729379*1000-967");
        holds(products, "65537*65537=131073");
        String turned = "Terms, a - in front wraps around in 32 bits";
        holds(turned, "-" + LEAST + "=" + LEAST);
        holds(turned, "-" + LEAST + "<0");
        holds(turned, "-" + MOST + "-1=" + LEAST);
        holds(turned, "-0=0");
    }

    private static void dividing() {
        String cut = "Terms, / is cut towards 0";
        holds(cut, "7/2=3");
        holds(cut, "-7/2=-3");
        holds(cut, "7/-2=-3");
        holds(cut, "-7/-2=3");
        holds(cut, "(0-7)/2=-3");
        holds(cut, "1/2=0");
        holds(cut, "(0-1)/2=0");
        holds(cut, "6/3=2");
        holds(cut, MOST + "/" + LEAST + "=0");
        holds(cut, LEAST + "/" + MOST + "=-1");
        String zero = "Terms, / gives 0 with 0 on the right side";
        holds(zero, "5/0=0");
        holds(zero, "-5/0=0");
        holds(zero, "0/0=0");
        holds(zero, LEAST + "/0=0");
        holds(zero, MOST + "/(1-1)=0");
        holds(zero, "1/0+1=1");
        holds(zero, "1/(1/2)=0");
        holds("Terms, / gives 0 with 0 on the left side", "0/5=0");
        String least = "Terms, -2147483648 / -1 gives -2147483648";
        holds(least, LEAST + "/-1=" + LEAST);
        holds(least, LEAST + "/(0-1)<0");
        holds(least + ", but the number above it gives the greatest one", "(" + LEAST + "+1)/-1=" + MOST);
        holds(least + ", but by 1 it is itself", LEAST + "/1=" + LEAST);
    }

    private static void leastAndMost() {
        String min = "Terms 1, min";
        holds(min, "min(1,2)=1");
        holds(min, "min(2,1)=1");
        holds(min, "min(2,2)=2");
        holds(min, "min(-1,1)=-1");
        holds(min, "min(" + LEAST + "," + MOST + ")=" + LEAST);
        String max = "Terms 1, max";
        holds(max, "max(1,2)=2");
        holds(max, "max(2,1)=2");
        holds(max, "max(2,2)=2");
        holds(max, "max(-1,1)=1");
        holds(max, "max(" + LEAST + "," + MOST + ")=" + MOST);
    }

    private static void binding() {
        String sum = "Terms 1, sums";
        holds(sum + " are reckoned from the left", "8-4-2=2");
        holds(sum + " are reckoned from the left", "8-4+2=6");
        holds(sum + " have products as their parts", "1+2*3=7");
        holds(sum + " have products as their parts", "2*3+1=7");
        holds(sum + " have products as their parts", "7-6/2=4");
        String product = "Terms 1, products";
        holds(product + " are reckoned from the left", "16/4/2=2");
        holds(product + " are reckoned from the left", "3/4*8=0");
        holds(product + " are reckoned from the left", "3*8/4=6");
        String value = "Terms 1, values";
        holds(value + ": - turns the value alone", "-2+5=3");
        holds(value + ": - turns the value alone", "-7/2*2=-6");
        holds(value + ": - twice", "--2=2");
        holds(value + ": - behind -", "1--1=2");
        holds(value + ": ( ) go ahead", "(1+2)*3=9");
        holds(value + ": ( ) go ahead", "8-(4-2)=6");
        holds(value + ": - turns ( )", "-(1-3)=2");
    }

    private static void comparing() {
        String[][] signs = {{"<", "1<2"}, {">", "2>1"}, {"=", "1=1"}, {"<=", "1<=1", "1<=2"}, {">=", "1>=1", "2>=1"}};
        String[][] not = {{"1<1", "2<1"}, {"1>1", "1>2"}, {"1=2", "2=1"}, {"2<=1"}, {"1>=2"}};
        for (int i = 0; i < signs.length; i++) {
            String head = "Terms 1, the sign " + signs[i][0];
            for (int j = 1; j < signs[i].length; j++) {
                holds(head, signs[i][j]);
            }
            for (String test : not[i]) {
                holdsNot(head, test);
            }
        }
        holds("Terms 1, the sign < at the ends of 32 bits", LEAST + "<" + MOST);
        holdsNot("Terms 1, the sign > at the ends of 32 bits", LEAST + ">" + MOST);
        holds("Terms 1, the sign <= at the ends of 32 bits", LEAST + "<=" + MOST);
        holds("Terms 1, the sign >= at the ends of 32 bits", MOST + ">=" + LEAST);
    }

    private static void joining() {
        String[] sides = {"1=2", "1=1"};
        for (int a = 0; a < 2; a++) {
            for (int b = 0; b < 2; b++) {
                String and = sides[a] + " and " + sides[b];
                String or = sides[a] + " or " + sides[b];
                E.test("Terms 3, and: " + and, () -> E.is("holds", Edges.holds("", and) ? 1 : 0,
                        and.contains("2") ? 0 : 1));
                E.test("Terms 3, or: " + or, () -> E.is("holds", Edges.holds("", or) ? 1 : 0,
                        or.contains("1=1") ? 1 : 0));
            }
        }
        String more = "Terms 3, and binds more than or";
        holds(more, "1=1 or 1=1 and 1=2");
        holds(more, "1=2 and 1=1 or 1=1");
        holdsNot(more, "1=2 or 1=1 and 1=2");
        holdsNot(more + ", but [ ] go ahead", "[1=1 or 1=1] and 1=2");
        holdsNot(more + ", but [ ] go ahead", "1=2 and [1=1 or 1=1]");
        String not = "Terms 3, not binds more than and";
        holdsNot(not, "not 1=2 and 1=2");
        holds(not, "not 1=2 and 1=1");
        holds(not + " and or", "not 1=1 or 1=1");
        holds(not + ", but [ ] go ahead", "not[1=2 and 1=2]");
        holdsNot(not + ", but [ ] go ahead", "not[1=1 or 1=2]");
        holds(not + ", twice", "not not 1=1");
        holdsNot(not + ", twice", "not not 1=2");
        holdsNot(not + ": a road that is open", "not open p");
        holdsNot(not + ": taverns that are parted", "not parted a d");
        holds(not + ": taverns that are not parted", "not parted a c");
        fact("Terms 3, not: a tavern that knows", "not knows a k", false);
        fact("Terms 3, not: a tavern that does not know", "not knows c k", true);
        holds("Terms 3, many and", "1=1 and 1=1 and 1=1 and 1=1");
        holdsNot("Terms 3, many and, the last one", "1=1 and 1=1 and 1=1 and 1=2");
        holdsNot("Terms 3, many and, the first one", "1=2 and 1=1 and 1=1 and 1=1");
        holds("Terms 3, many or, the last one", "1=2 or 1=2 or 1=2 or 1=1");
        holds("Terms 3, many or, the first one", "1=1 or 1=2 or 1=2 or 1=2");
        holdsNot("Terms 3, many or", "1=2 or 1=2 or 1=2 or 1=2");
        holds("Terms 3, both sides of or are reckoned: one divides by 0", "1=1 or 1/0=1");
        holdsNot("Terms 3, both sides of and are reckoned: one divides by 0", "1=2 and 1/0=0");
    }

    /** In the hour 4 of this land a and b know k (b since hour 2), c does not; nobody knows m. */
    private static void fact(String head, String test, boolean due) {
        E.test(head + ": " + (due ? "" : "not ") + test, () -> {
            String list = Edges.LAND + "rumour k at a on 0;rumour m at d on 5;";
            E.is("holds", Edges.holdsIn(4, list, test) ? 1 : 0, due ? 1 : 0);
        });
    }

    private static void facts() {
        holds("Terms 3, hour: 0 in the first one", "hour=0");
        fact("Terms 3, hour: the one that goes by, not the next one", "hour=4", true);
        fact("Terms 3, heard: how many taverns know it", "heard k=2", true);
        fact("Terms 3, heard: 0 if none does", "heard m=0", true);
        fact("Terms 3, knows: the one at which it begins", "knows a k", true);
        fact("Terms 3, knows: one that heard it", "knows b k", true);
        fact("Terms 3, knows: one that it has not reached", "knows c k", false);
        fact("Terms 3, knows: one that knows another rumour alone", "knows a m", false);
        E.test("Terms 3, knows: orders come ahead of travellers who arrive in the hour", () -> {
            String list = Edges.LAND + "rumour k at a on 0;";
            E.is("c hears it in the hour 5", Edges.holdsIn(5, list, "knows c k") ? 1 : 0, 0);
            E.is("and knows it in the next one", Edges.holdsIn(6, list, "knows c k") ? 1 : 0, 1);
        });
        E.test("Terms 3, heard: orders come ahead of rumours that begin in the hour", () -> {
            E.is("holds", Edges.holdsIn(3, "tavern a;rumour k at a on 3;", "heard k=0") ? 1 : 0, 1);
        });
        E.test("Terms 3, knows: a rumour that began in the hour ahead", () -> {
            E.is("holds", Edges.holdsIn(4, "tavern a;rumour k at a on 3;", "knows a k and heard k=1") ? 1 : 0, 1);
        });
        E.test("Terms 3, heard: all of ten taverns", () -> {
            String taverns = Edges.numbered(8, "tavern t", ";");
            String list = taverns + "rumour k at t0 on 0;" + roadsFrom0To(7);
            E.is("holds", Edges.holdsIn(9, list, "heard k=8") ? 1 : 0, 1);
        });
    }

    private static String roadsFrom0To(int last) {
        StringBuilder text = new StringBuilder();
        for (int i = 1; i <= last; i++) {
            text.append("road r").append(i).append(" from t0 to t").append(i).append(" miles 1;");
        }
        return text.toString();
    }

    /** How p of the land is with so many wounds, as an order's test has it. */
    private static void withWounds(String head, int wounds, String test, boolean due) {
        E.test(head + " with " + wounds + " wounds: " + (due ? "" : "not ") + test, () -> {
            String hurt = "hurt p by " + wounds + " when hour=0;hurt s by 3 when hour=0;";
            E.is("holds", Edges.holds(Edges.LAND + hurt, test) ? 1 : 0, due ? 1 : 0);
        });
    }

    private static void roadFacts() {
        for (int wounds = 0; wounds <= 3; wounds++) {
            boolean open = wounds < 3;
            withWounds("Terms 3, wounds", wounds, "wounds p=" + wounds, true);
            withWounds("Terms 3, length", wounds, "length p=" + (2 + 2 * wounds), true);
            withWounds("Terms 3, open", wounds, "open p", open);
            withWounds("Terms 3, parted", wounds, "parted a c", !open);
            withWounds("Terms 3, far", wounds, "far a c=" + (open ? 5 + 2 * wounds : -1), true);
        }
        holds("Terms 3, far: 0 from a tavern to itself", "far d d=0");
        holds("Terms 3, far: -1 without a way", "far a d=-1");
        holds("Terms 3, far: both ways", "far a c=5 and far c a=5");
        holdsNot("Terms 3, parted: a tavern from itself", "parted d d");
        holds("Terms 3, parted: without a way", "parted a d and parted d a");
        holdsNot("Terms 3, parted: with a way", "parted a c or parted c a");
        holdsNot("Terms 3, parted: with two roads", "parted d e");
        E.test("Terms 3, far: over nine roads as long as can be", () -> {
            StringBuilder list = new StringBuilder(Edges.numbered(10, "tavern t", ";"));
            for (int i = 0; i < 9; i++) {
                list.append("road r").append(i).append(" from t").append(i).append(" to t").append(i + 1)
                        .append(" miles 30;");
            }
            for (int i = 0; i < 9; i++) {
                list.append("hurt r").append(i).append(" by 2 when hour=0;");
            }
            list.append("hurt r0 by 1 when hour=1 and far t0 t9=306 and far t9 t0=306;");
            TavernRumours x = Edges.land(list.toString());
            x.pass(2);
            E.is("wounds", x.road(0, 3), 3);
        });
    }

    private static void wounds(String sum, int due) {
        E.test("Terms 3, hurt: by " + sum + " these are " + due + " wounds", () -> {
            TavernRumours x = Edges.land(Edges.PAIR + "1;hurt r by " + sum + " when 1=1;");
            x.pass(1);
            E.is("wounds", x.road(0, 3), due);
            E.is("carried out", x.count(10), due == 0 ? 0 : 1);
        });
    }

    private static void woundsBySums() {
        wounds("0", 0);
        wounds("1", 1);
        wounds("2", 2);
        wounds("3", 3);
        wounds("4", 3);
        wounds("999999", 3);
        wounds("-1", 0);
        wounds("0-999999", 0);
        wounds(MOST, 3);
        wounds(LEAST, 0);
        wounds(MOST + "+1", 0);
        wounds(LEAST + "-1", 3);
        wounds("far a b", 1);
        wounds("far a a", 0);
        wounds("far a b-2", 0);
    }
}
