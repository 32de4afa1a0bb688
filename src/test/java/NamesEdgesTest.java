/** Edges of errors 2 to 5, of their order, and of the numbers that taverns, roads, rumours and orders get. */
public final class NamesEdgesTest {
    private static final Edges E = new Edges();
    private static final String ALL = "tavern t;tavern u;road r from t to u miles 1;rumour s at t on 0;";
    private static final String[] KINDS = {"tavern", "road", "rumour"};
    private static final String[] ONE_OF_KIND = {"t", "r", "s"};
    private static final String[] LINE_OF_KIND = {"tavern z;", "road z from t to u miles 1;", "rumour z at t on 0;"};

    /** Each place of a name (at the ?), and the kind of which it has to be. */
    private static final String[][] PLACES = {
        {"from", "0", "road x from ? to u miles 1;"}, {"to", "0", "road x from u to ? miles 1;"},
        {"at", "0", "rumour x at ? on 0;"}, {"hush", "0", "hush ? when 1=1;"},
        {"parted, the first one", "0", "hush t when parted ? u;"},
        {"parted, the second one", "0", "hush t when parted u ?;"},
        {"far, the first one", "0", "hush t when far ? u=1;"}, {"far, the second one", "0", "hush t when far u ?=1;"},
        {"knows, the first one", "0", "hush t when knows ? s;"}, {"hurt", "1", "hurt ? by 1 when 1=1;"},
        {"mend", "1", "mend ? when 1=1;"}, {"open", "1", "hush t when open ?;"},
        {"length", "1", "hush t when length ?=1;"}, {"wounds", "1", "hush t when wounds ?=1;"},
        {"heard", "2", "hush t when heard ?=1;"}, {"knows, the second one", "2", "hush t when knows t ?;"},
        {"length, in the sum of hurt", "1", "hurt r by length ? when 1=1;"},
        {"wounds, in the sum of hurt", "1", "hurt r by wounds ? when 1=1;"},
        {"heard, in the sum of hurt", "2", "hurt r by heard ? when 1=1;"},
        {"far, in the sum of hurt, the first one", "0", "hurt r by far ? u when 1=1;"},
        {"far, in the sum of hurt, the second one", "0", "hurt r by far u ? when 1=1;"}};

    private NamesEdgesTest() {
    }

    public static void main(String[] args) {
        toldTwice();
        unknown();
        sameTavern();
        tooMany();
        outOfRange();
        order();
        oneToken();
        numbering();
        E.end("NamesEdgesTest");
    }

    private static void toldTwice() {
        E.wrong("Terms 1, error 2: the name of a tavern told ahead", 2, ALL + "tavern ?t;");
        E.wrong("Terms 1, error 2: the name of a road told ahead", 2, ALL + "road ?r from t to u miles 1;");
        E.wrong("Terms 1, error 2: the name of a rumour told ahead", 2, ALL + "rumour ?s at t on 0;");
        E.right("Terms 1, error 2: a tavern may have the name of a road and of a rumour",
                ALL + "tavern r;tavern s;");
        E.right("Terms 1, error 2: a road may have the name of a tavern and of a rumour",
                ALL + "road t from t to u miles 1;road s from t to u miles 1;");
        E.right("Terms 1, error 2: a rumour may have the name of a tavern and of a road",
                ALL + "rumour t at t on 0;rumour r at t on 0;");
        E.wrong("Terms 1, error 2: the first tavern's name as the tenth's", 2,
                Edges.numbered(9, "tavern t", ";") + "tavern ?t0;");
        E.wrong("Terms 1, error 2: the name of the tavern just ahead", 2, "tavern a;tavern ?a;");
        E.test("Terms 1, error 2: the name of a list ahead may be told again", () -> {
            TavernRumours x = Edges.land(ALL);
            E.is("teach", Due.teach(x, ALL), 0);
        });
        E.test("Terms 1, error 2: the name of a list with an error may be told again", () -> {
            TavernRumours x = new TavernRumours();
            E.is("teach", Due.teach(x, ALL + "tavern t;"), 2);
            E.is("teach", Due.teach(x, ALL), 0);
        });
    }

    private static void unknown() {
        for (String[] place : PLACES) {
            int kind = Integer.parseInt(place[1]);
            String name = "Terms 1, error 3: behind " + place[0] + ", ";
            E.right(name + "the name of a " + KINDS[kind], ALL + place[2].replace("?", ONE_OF_KIND[kind]));
            E.wrong(name + "an unknown name", 3, ALL + place[2].replace("?", "?z"));
            for (int other = 0; other < 3; other++) {
                if (other != kind) {
                    E.wrong(name + "the name of a " + KINDS[other] + " alone", 3,
                            ALL + place[2].replace("?", "?" + ONE_OF_KIND[other]));
                }
            }
            E.wrong(name + "the name of a " + KINDS[kind] + " told only behind it", 3,
                    ALL + place[2].replace("?", "?z") + LINE_OF_KIND[kind]);
            E.test(name + "a name of a list ahead", () -> {
                TavernRumours x = Edges.land(ALL + LINE_OF_KIND[kind]);
                E.is("teach", Due.teach(x, ALL + place[2].replace("?", "z")), 3);
                E.is("errorAt", x.errorAt(), ALL.length() + place[2].indexOf('?'));
            });
        }
        E.wrong("Terms 1, error 3: behind to, also if both names are as unknown: the first one", 3,
                ALL + "road x from ?z to z miles 1;");
        E.right("Terms 1, error 3: a tavern may be named in the line just behind", "tavern t;hush t when 1=1;");
    }

    private static void sameTavern() {
        E.wrong("Terms 1, error 3: a road that leads to the tavern from which it comes, at the name behind to", 3,
                ALL + "road x from t to ?t miles 1;");
        E.wrong("Terms 1, error 3: so does one from the latest tavern", 3, ALL + "road x from u to ?u miles 1;");
        E.right("Terms 1, error 3: two roads of the same taverns, one each way",
                ALL + "road x from t to u miles 1;road y from u to t miles 1;");
    }

    private static void tooMany() {
        String taverns = Edges.numbered(10, "tavern t", ";");
        E.right("Terms 1, error 4: ten taverns", taverns);
        E.wrong("Terms 1, error 4: the name of the 11th tavern", 4, taverns + "tavern ?x;");
        String roads = ALL + Edges.numbered(13, "road r", " from t to u miles 1;");
        E.right("Terms 1, error 4: fourteen roads", roads);
        E.wrong("Terms 1, error 4: the name of the 15th road", 4, roads + "road ?x from t to u miles 1;");
        String rumours = ALL + Edges.numbered(5, "rumour s", " at t on 0;");
        E.right("Terms 1, error 4: six rumours", rumours);
        E.wrong("Terms 1, error 4: the name of the 7th rumour", 4, rumours + "rumour ?x at t on 0;");
        String[] orders = {"hurt r by 1 when 1=1;", "mend r when 1=1;", "hush t when 1=1;"};
        for (String order : orders) {
            E.right("Terms 1, error 4: twenty times " + order.substring(0, 4), ALL + order.repeat(20));
            E.wrong("Terms 1, error 4: the word " + order.substring(0, 4) + " of the 21st order", 4,
                    ALL + order.repeat(20) + "?" + order);
        }
        String all = ALL + String.join("", orders).repeat(6) + orders[0] + orders[1];
        E.right("Terms 1, error 4: twenty orders of all three together", all);
        for (String order : orders) {
            E.wrong("Terms 1, error 4: the 21st of all three together, " + order.substring(0, 4), 4, all + "?" + order);
        }
        String full = taverns + Edges.numbered(14, "road r", " from t0 to t9 miles 30;")
                + Edges.numbered(6, "rumour s", " at t9 on 99;") + "mend r13 when open r0;".repeat(20);
        E.right("Terms 1, error 4: as many of all as there may be", full);
        E.test("Terms 1, error 4: as many of all as there may be are counted", () -> {
            TavernRumours x = Edges.land(full);
            E.is("taverns", x.count(1), 10);
            E.is("roads", x.count(2), 14);
            E.is("rumours", x.count(3), 6);
            E.is("orders", x.count(4), 20);
        });
    }

    private static void outOfRange() {
        E.wrong("Terms 1, error 5: miles 0", 5, Edges.PAIR + "?0;");
        E.right("Terms 1, error 5: miles 1", Edges.PAIR + "1;");
        E.right("Terms 1, error 5: miles 30", Edges.PAIR + "30;");
        E.wrong("Terms 1, error 5: miles 31", 5, Edges.PAIR + "?31;");
        E.wrong("Terms 1, error 5: miles 999999", 5, Edges.PAIR + "?999999;");
        E.right("Terms 1, error 5: on 0", "tavern a;rumour s at a on 0;");
        E.right("Terms 1, error 5: on 99", "tavern a;rumour s at a on 99;");
        E.wrong("Terms 1, error 5: on 100", 5, "tavern a;rumour s at a on ?100;");
        E.wrong("Terms 1, error 5: on 999999", 5, "tavern a;rumour s at a on ?999999;");
        E.right("Terms 1, error 5: the numbers of sums and tests have no range",
                Edges.PAIR + "1;hurt r by 999999 when 0<100 and 999999>31;");
        E.test("Terms 1, error 5: miles 1 and 30 are what was told", () -> {
            TavernRumours x = Edges.land(Edges.PAIR + "1;road q from a to b miles 30;");
            E.is("miles", x.road(0, 2), 1);
            E.is("miles", x.road(1, 2), 30);
        });
        E.test("Terms 1, error 5: on 0 and 99 are what was told", () -> {
            TavernRumours x = Edges.land("tavern a;rumour s at a on 0;rumour o at a on 99;");
            E.is("hour", x.rumour(0, 1), 0);
            E.is("hour", x.rumour(1, 1), 99);
        });
    }

    /** The first error from left to right, only if there is no error 1. */
    private static void order() {
        String[] numbered = {"", "", "tavern t;", "hush z when 1=1;", "", "rumour b at t on 100;"};
        int[] places = {0, 0, 7, 5, 0, 17};
        for (int first : new int[] {2, 3, 5}) {
            for (int second : new int[] {2, 3, 5}) {
                if (first != second) {
                    E.test("Terms 1, errors: error " + first + " told ahead of error " + second + " to its right",
                            () -> E.taught(ALL + numbered[first] + numbered[second], first,
                                    ALL.length() + places[first]));
                }
            }
        }
        String taverns = Edges.numbered(10, "tavern t", ";");
        E.wrong("Terms 1, errors: error 4 told ahead of error 2 to its right", 4, taverns + "tavern ?x;tavern x;");
        E.wrong("Terms 1, errors: error 2 told ahead of error 4 to its right", 2, taverns + "tavern ?t1;tavern x;");
        E.wrong("Terms 1, errors: error 4 told ahead of error 3 to its right", 4, taverns
                + "tavern ?x;hush y when 1=1;");
        E.wrong("Terms 1, errors: error 3 told ahead of error 4 to its right", 3, taverns
                + "hush ?y when 1=1;tavern x;");
        E.wrong("Terms 1, errors: in one line the road's name, its from, its to, its miles", 2,
                ALL + "road ?r from z to z miles 0;");
        E.wrong("Terms 1, errors: in one line from, to, miles", 3, ALL + "road x from ?z to y miles 0;");
        E.wrong("Terms 1, errors: in one line to, miles", 3, ALL + "road x from t to ?t miles 0;");
        E.wrong("Terms 1, errors: in one line the rumour's name, its at, its on", 2, ALL + "rumour ?s at z on 100;");
        E.wrong("Terms 1, errors: in one line at, on", 3, ALL + "rumour x at ?z on 100;");
        E.wrong("Terms 1, errors: in one line the sum of hurt, its test", 3,
                ALL + "hurt r by length ?y when open z;");
        E.wrong("Terms 1, errors: in one line the road of hurt, its sum", 3, ALL + "hurt ?z by length y when open z;");
        E.wrong("Terms 1, errors: error 1 alone, though to the right of all others", 1,
                ALL + "tavern t;hush z when 1=1;rumour b at t on 100;?=");
        E.wrong("Terms 1, errors: error 1 at the end of the tape, though to the right of another", 1,
                ALL + "tavern t?");
    }

    private static void oneToken() {
        E.wrong("Terms 1, errors at one token: 2 ahead of 4, a tavern", 2,
                Edges.numbered(10, "tavern t", ";") + "tavern ?t9;");
        E.wrong("Terms 1, errors at one token: 2 ahead of 4, a road", 2,
                ALL + Edges.numbered(13, "road r", " from t to u miles 1;") + "road ?r from t to u miles 1;");
        E.wrong("Terms 1, errors at one token: 2 ahead of 4, a rumour", 2,
                ALL + Edges.numbered(5, "rumour s", " at t on 0;") + "rumour ?s at t on 0;");
        E.wrong("Terms 1, errors: the word of the 21st order comes ahead of its unknown name", 4,
                ALL + "mend r when 1=1;".repeat(20) + "?hush z when 1=1;");
    }

    private static void numbering() {
        E.test("Terms 1, numbers: taverns and roads are numbered from 0 as they are told", () -> {
            TavernRumours x = Edges.land("tavern z;tavern m;road w from m to z miles 7;tavern a;"
                    + "road v from z to a miles 8;");
            E.is("the first road comes from", x.road(0, 0), 1);
            E.is("it leads to", x.road(0, 1), 0);
            E.is("the second one comes from", x.road(1, 0), 0);
            E.is("it leads to", x.road(1, 1), 2);
        });
        E.test("Terms 1, numbers: rumours are numbered from 0 as they are told", () -> {
            TavernRumours x = Edges.land("tavern z;tavern a;rumour z at a on 9;rumour a at z on 8;");
            E.is("hour", x.rumour(0, 1), 9);
            E.is("hour", x.rumour(1, 1), 8);
            E.is("tavern", x.rumour(0, 0), 1);
        });
        E.test("Terms 1, numbers: orders are given as they are told, also between other lines", () -> {
            TavernRumours x = Edges.land(ALL + "hurt r by 1 when 1=1;tavern v;hurt r by 2 when wounds r=1;"
                    + "rumour x at v on 3;mend r when wounds r=3;");
            x.pass(1);
            E.is("wounds", x.road(0, 3), 2);
            E.is("carried out", x.count(10), 3);
        });
        E.test("Terms 1, numbers: an order's names are looked up where it stands", () -> {
            TavernRumours x = Edges.land(ALL + "hush u when far t u=1 and length r=1;tavern v;");
            x.pass(1);
            E.is("carried out", x.count(10), 1);
        });
    }
}
