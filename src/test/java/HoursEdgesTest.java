/** Edges of how hours go: chapter 3 of the Terms, and promise 19. */
public final class HoursEdgesTest {
    private static final Edges E = new Edges();

    private HoursEdgesTest() {
    }

    public static void main(String[] args) {
        passing();
        howOftenHeard();
        orderOfOrders();
        carriedOut();
        lost();
        notLost();
        beginnings();
        lengthsNow();
        arrivals();
        settingOut();
        sentOnce();
        hushed();
        hushedAndHears();
        E.end("HoursEdgesTest");
    }

    private static TavernRumours pair(String behind) {
        return Edges.land(Edges.PAIR + behind);
    }

    private static TavernRumours passed(int hours, String list) {
        TavernRumours x = Edges.land(list);
        x.pass(hours);
        return x;
    }

    private static void passing() {
        E.range("Promise 19, pass: hours", () -> pair("3;rumour s at a on 0;"), Edges.IAE, 1, 100, TavernRumours::pass);
        E.range("Promise 19, pass: hours, on a new object,", TavernRumours::new, Edges.IAE, 1, 100,
                TavernRumours::pass);
        for (int hours : new int[] {0, -100}) {
            TavernRumours x = pair("3;rumour s at a on 0;");
            E.refused("Promise 19, pass: refused with hours " + hours, x, Edges.IAE, () -> x.pass(hours));
        }
        E.test("Promise 19, pass: a hundred hours are as a hundred times one", () -> {
            String list = Edges.LAND + "rumour l at a on 0;rumour m at e on 7;hurt p by hour/9 when hour*7/5=hour/3*3;"
                    + "mend p when hour>20 and wounds p>1;hush b when hour<30 and knows b l;";
            TavernRumours x = Edges.land(list);
            TavernRumours y = Edges.land(list);
            int heard = 0;
            for (int i = 0; i < 100; i++) {
                heard += y.pass(1);
            }
            E.is("pass", x.pass(100), heard);
            E.is("digest", x.digest(), y.digest());
        });
        E.test("Promise 19, pass: the hour is 1 greater behind each", () -> {
            TavernRumours x = new TavernRumours();
            x.pass(1);
            E.is("hour", x.count(0), 1);
            x.pass(100);
            E.is("hour then", x.count(0), 101);
        });
    }

    private static void howOftenHeard() {
        E.test("Promise 19, pass: 0, if no tavern hears", () -> E.is("pass", pair("3;").pass(100), 0));
        E.test("Promise 19, pass: a rumour that begins is heard", () -> {
            E.is("pass", Edges.land("tavern a;rumour s at a on 0;").pass(1), 1);
        });
        E.test("Promise 19, pass: a tavern that two travellers tell in one hour heard once", () -> {
            E.is("pass", pair("1;road q from a to b miles 1;rumour s at a on 0;").pass(2), 2);
        });
        E.test("Promise 19, pass: what was told by hand ahead is not counted", () -> {
            TavernRumours x = pair("1;rumour s at a on 50;");
            x.tell(0, 0);
            x.tell(1, 0);
            E.is("pass", x.pass(60), 0);
        });
        E.test("Promise 19, pass: all hours that go by are counted, not those ahead", () -> {
            TavernRumours x = pair("1;rumour s at a on 0;rumour t at b on 9;rumour u at b on 9;");
            E.is("pass", x.pass(9), 2);
            E.is("pass then", x.pass(9), 4);
            E.is("and then", x.pass(9), 0);
        });
        E.test("Promise 19, pass: as often as can be in one hour", () -> {
            StringBuilder list = new StringBuilder(Edges.numbered(10, "tavern t", ";"));
            for (int i = 1; i < 10; i++) {
                list.append("road r").append(i).append(" from t0 to t").append(i).append(" miles 1;");
            }
            TavernRumours x = Edges.land(list + Edges.numbered(6, "rumour s", " at t0 on 0;"));
            E.is("pass", x.pass(1), 6);
            E.is("pass then", x.pass(1), 54);
        });
    }

    private static void wounds(String head, int wounds, int carriedOut, String orders) {
        E.test(head, () -> {
            TavernRumours x = passed(1, Edges.PAIR + "1;" + orders);
            E.is("wounds", x.road(0, 3), wounds);
            E.is("carried out", x.count(10), carriedOut);
        });
    }

    private static void orderOfOrders() {
        String head = "Terms 3, orders: ";
        wounds(head + "what one did counts in the test of the one behind it", 3, 2,
                "hurt r by 1 when 1=1;hurt r by 2 when wounds r=1;");
        wounds(head + "what one did counts in the sum of the one behind it", 2, 2,
                "hurt r by 1 when 1=1;hurt r by wounds r when 1=1;");
        wounds(head + "what one did does not count in the one ahead of it", 1, 1,
                "hurt r by 2 when wounds r=1;hurt r by 1 when 1=1;");
        wounds(head + "what one did counts in its own test not yet", 1, 1, "hurt r by 1 when wounds r=0;");
        wounds(head + "broken, and so parted for the one behind it", 2, 2,
                "hurt r by 3 when 1=1;mend r when parted a b and far a b=-1 and not open r;");
        wounds(head + "mended, and so as ahead for the one behind it", 3, 3,
                "hurt r by 3 when 1=1;mend r when 1=1;hurt r by 1 when far a b=5 and length r=5;");
        wounds(head + "each one once in an hour", 1, 1, "hurt r by 1 when 1=1;");
        E.test(head + "again in each hour in which the test holds", () -> {
            E.is("wounds", passed(2, Edges.PAIR + "1;hurt r by 1 when hour<2;").road(0, 3), 2);
            E.is("wounds", passed(9, Edges.PAIR + "1;hurt r by 1 when hour<2;").road(0, 3), 2);
        });
        E.test(head + "an order in the hour 99, and none behind it", () -> {
            TavernRumours x = passed(99, Edges.PAIR + "1;hurt r by 1 when hour=99;");
            E.is("wounds", x.road(0, 3), 0);
            x.pass(1);
            E.is("wounds then", x.road(0, 3), 1);
        });
        E.test(head + "all twenty of a full list", () -> {
            TavernRumours x = passed(1, Edges.PAIR + "1;" + "hurt r by 1 when 1=1;mend r when 1=1;".repeat(10));
            E.is("carried out", x.count(10), 20);
            E.is("wounds", x.road(0, 3), 0);
        });
    }

    private static void carriedOut() {
        String head = "Terms 3, orders carried out: ";
        wounds(head + "none whose test does not hold", 0, 0, "hurt r by 1 when 1=2;mend r when 1=2;hush a when 1=2;");
        wounds(head + "none that hurts by 0", 0, 0, "hurt r by 0 when 1=1;");
        wounds(head + "none that hurts by less than 0", 0, 0, "hurt r by -3 when 1=1;");
        wounds(head + "one less than 0 takes no wound away", 2, 1, "hurt r by 2 when 1=1;hurt r by -1 when 1=1;");
        wounds(head + "one that hurts a road to 3, though by more than is missing", 3, 2,
                "hurt r by 2 when 1=1;hurt r by 2 when 1=1;");
        wounds(head + "none that hurts a broken road", 3, 1, "hurt r by 3 when 1=1;hurt r by 3 when 1=1;");
        wounds(head + "none that mends a road without wounds", 0, 0, "mend r when 1=1;");
        wounds(head + "one that mends the last wound", 0, 2, "hurt r by 1 when 1=1;mend r when 1=1;mend r when 1=1;");
        wounds(head + "one that mends a broken road by one wound", 2, 2, "hurt r by 3 when 1=1;mend r when 1=1;");
        wounds(head + "one that hushes", 0, 1, "hush a when 1=1;");
        wounds(head + "none that hushes what is hushed in this hour", 0, 1, "hush a when 1=1;hush a when 1=1;");
        wounds(head + "two that hush two taverns", 0, 2, "hush a when 1=1;hush b when 1=1;");
        E.test(head + "one that hushes again in the next hour", () -> {
            E.is("carried out", passed(2, Edges.PAIR + "1;hush a when 1=1;hush a when 1=1;").count(10), 2);
        });
        E.test(head + "those of all hours, in all", () -> {
            E.is("carried out", passed(100, Edges.PAIR + "1;hurt r by 1 when 1=1;mend r when 1=1;").count(10), 200);
        });
    }

    private static void lost() {
        String head = "Terms 3, travellers lost: ";
        E.test(head + "on a road that an order breaks in this hour", () -> {
            TavernRumours x = passed(3, Edges.PAIR + "9;rumour s at a on 0;hurt r by 3 when hour=3;");
            E.is("lost", x.count(13), 0);
            x.pass(1);
            E.is("lost then", x.count(13), 1);
            E.is("on the way", x.count(8), 0);
        });
        E.test(head + "on a road broken by hand, in the next hour alone", () -> {
            TavernRumours x = passed(3, Edges.PAIR + "9;rumour s at a on 0;");
            x.hurt(0, 3);
            E.is("lost", x.count(13), 0);
            E.is("on the way", x.count(8), 1);
            x.pass(1);
            E.is("lost then", x.count(13), 1);
            x.pass(9);
            E.is("lost later", x.count(13), 1);
        });
        E.test(head + "also one who would have arrived in this hour", () -> {
            TavernRumours x = passed(2, Edges.PAIR + "2;rumour s at a on 0;hurt r by 3 when hour=2;");
            E.is("heard", x.pass(1), 0);
            E.is("lost", x.count(13), 1);
        });
        E.test(head + "by the third wound, not by the second one", () -> {
            TavernRumours x = passed(3, Edges.PAIR + "9;rumour s at a on 0;hurt r by 1 when hour>2;");
            x.pass(2);
            E.is("lost", x.count(13), 0);
            x.pass(1);
            E.is("lost then", x.count(13), 1);
        });
        E.test(head + "all on this road, with all rumours, both ways", () -> {
            TavernRumours x = passed(2, Edges.PAIR + "9;rumour s at a on 0;rumour t at b on 1;rumour u at b on 1;");
            x.hurt(0, 3);
            x.pass(1);
            E.is("lost", x.count(13), 3);
        });
        E.test(head + "nobody on other roads", () -> {
            TavernRumours x = passed(2, Edges.PAIR + "9;road q from a to b miles 9;rumour s at a on 0;");
            x.hurt(0, 3);
            x.pass(1);
            E.is("lost", x.count(13), 1);
            E.is("on q", x.road(1, 8), 1);
        });
        E.test(head + "the others go on with their rumours and miles", () -> {
            // s on r, then t on q, then u on q; those on r are lost
            TavernRumours x = passed(4, Edges.PAIR + "9;tavern c;road q from b to c miles 6;rumour s at a on 0;"
                    + "rumour t at c on 1;rumour u at c on 3;hurt r by 3 when hour=4;hush b when 1=1;");
            x.pass(20);
            E.is("lost", x.count(13), 1);
            E.is("s", x.since(1, 0), -1);
            E.is("t", x.since(1, 1), 7);
            E.is("u", x.since(1, 2), 9);
        });
        E.test(head + "their tavern does not send anew", () -> {
            TavernRumours x = passed(2, Edges.PAIR + "9;rumour s at a on 0;");
            x.hurt(0, 3);
            x.pass(1);
            x.mend(0);
            E.is("heard", x.pass(50), 0);
            E.is("known", x.count(9), 1);
        });
    }

    private static void notLost() {
        String head = "Terms 3, travellers not lost: ";
        E.test(head + "broken by hand and mended by hand ahead of the next hour", () -> {
            TavernRumours x = passed(3, Edges.PAIR + "9;rumour s at a on 0;");
            x.hurt(0, 3);
            x.mend(0);
            x.pass(1);
            E.is("lost", x.count(13), 0);
            E.is("on the way", x.count(8), 1);
        });
        E.test(head + "broken by hand and mended by an order of the next hour", () -> {
            TavernRumours x = passed(3, Edges.PAIR + "9;rumour s at a on 0;mend r when not open r;");
            x.hurt(0, 3);
            x.pass(1);
            E.is("lost", x.count(13), 0);
        });
        E.test(head + "broken and mended by orders of one hour", () -> {
            TavernRumours x = passed(3, Edges.PAIR
                    + "9;rumour s at a on 0;hurt r by 3 when hour=2;mend r when hour=2;");
            E.is("lost", x.count(13), 0);
            E.is("on the way", x.count(8), 1);
        });
        E.test(head + "who has arrived in the hour ahead", () -> {
            TavernRumours x = passed(2, Edges.PAIR + "1;tavern c;road q from b to c miles 9;rumour s at a on 0;"
                    + "hurt r by 3 when hour=2;");
            x.pass(1);
            E.is("lost: only one who goes back", x.count(13), 1);
            E.is("b knows", x.since(1, 0), 1);
        });
    }

    private static void beginnings() {
        String head = "Terms 3, rumours that begin: ";
        E.test(head + "in the hour 0", () -> E.is("since", passed(1, "tavern a;rumour s at a on 0;").since(0, 0), 0));
        E.test(head + "in the hour 99", () -> {
            TavernRumours x = passed(99, "tavern a;rumour s at a on 99;");
            E.is("since", x.since(0, 0), -1);
            x.pass(1);
            E.is("since then", x.since(0, 0), 99);
        });
        E.test(head + "six at one tavern in one hour", () -> {
            TavernRumours x = Edges.land("tavern a;" + Edges.numbered(6, "rumour s", " at a on 4;"));
            x.pass(4);
            E.is("heard", x.pass(1), 6);
        });
        E.test(head + "one is sent out in the hour in which it begins", () -> {
            E.is("on the way", passed(1, Edges.PAIR + "5;rumour s at a on 0;").count(8), 1);
        });
        E.test(head + "one that is known there already changes nothing, and is not sent again", () -> {
            TavernRumours x = pair("1;rumour s at a on 5;");
            x.tell(1, 0);
            x.pass(5);
            E.is("since", x.since(0, 0), 1);
            E.is("heard", x.pass(1), 0);
            E.is("since then", x.since(0, 0), 1);
            E.is("on the way", x.count(8), 0);
        });
        E.test(head + "it begins ahead of the travellers of its hour", () -> {
            // b would tell a in the hour in which it begins there: a knows it, and sends once
            TavernRumours x = pair("3;rumour s at a on 3;");
            x.tell(1, 0);
            E.is("heard", x.pass(4), 1);
            E.is("since", x.since(0, 0), 3);
            E.is("on the way", x.count(8), 1);
        });
        E.test(head + "it begins once", () -> {
            TavernRumours x = passed(1, "tavern a;rumour s at a on 0;");
            E.is("heard", x.pass(100), 0);
        });
    }

    private static void lengthsNow() {
        String head = "Terms 3, a mile farther: ";
        E.test(head + "as far as the road is long", () -> {
            E.is("since", passed(50, Edges.PAIR + "30;rumour s at a on 0;").since(1, 0), 30);
        });
        E.test(head + "a road 1 long: in the hour behind the setting out, not in the same", () -> {
            TavernRumours x = passed(1, Edges.PAIR + "1;rumour s at a on 0;");
            E.is("since", x.since(1, 0), -1);
            x.pass(1);
            E.is("since then", x.since(1, 0), 1);
        });
        E.test(head + "a wound on the way makes it two hours longer", () -> {
            TavernRumours x = passed(2, Edges.PAIR + "3;rumour s at a on 0;");
            x.hurt(0, 1);
            x.pass(10);
            E.is("since", x.since(1, 0), 5);
        });
        E.test(head + "an order's wound in the very hour of the arrival as well", () -> {
            E.is("since", passed(20, Edges.PAIR + "3;rumour s at a on 0;hurt r by 1 when hour=3;").since(1, 0), 5);
        });
        E.test(head + "an order's mending lets one arrive in this hour", () -> {
            TavernRumours x = pair("3;rumour s at a on 0;mend r when hour=3;");
            x.hurt(0, 1);
            x.pass(20);
            E.is("since", x.since(1, 0), 3);
        });
        E.test(head + "who has come farther than the road is long now has arrived", () -> {
            TavernRumours x = pair("3;rumour s at a on 0;mend r when hour>=4;");
            x.hurt(0, 2);
            x.pass(20);
            E.is("since", x.since(1, 0), 5);
        });
        E.test(head + "who has come farther by more than one mile has arrived", () -> {
            TavernRumours x = passed(8, Edges.PAIR + "9;rumour s at a on 0;");
            x.setMiles(0, 2);
            x.pass(1);
            E.is("since", x.since(1, 0), 8);
        });
        E.test(head + "not as it was long at the setting out", () -> {
            TavernRumours x = pair("3;rumour s at a on 0;");
            x.hurt(0, 2);
            x.pass(1);
            x.mend(0);
            x.mend(0);
            x.pass(20);
            E.is("since", x.since(1, 0), 3);
        });
    }

    private static void arrivals() {
        String head = "Terms 3, arrived: ";
        E.test(head + "the tavern at the other end hears it, from the road's second end too", () -> {
            E.is("since", passed(5, Edges.PAIR + "2;rumour s at b on 0;").since(0, 0), 2);
        });
        E.test(head + "who has arrived is on the way no more", () -> {
            TavernRumours x = passed(1, Edges.PAIR + "2;rumour s at a on 0;hush b when 1=1;");
            E.is("on the way", x.count(8), 1);
            x.pass(2);
            E.is("on the way then", x.count(8), 0);
        });
        E.test(head + "the tavern sends in the same hour", () -> {
            TavernRumours x = passed(3, Edges.PAIR + "2;rumour s at a on 0;");
            E.is("since", x.since(1, 0), 2);
            E.is("on the way", x.road(0, 8), 1);
        });
        E.test(head + "hearing what it knows already changes nothing", () -> {
            TavernRumours x = pair("2;rumour s at a on 0;");
            x.tell(1, 0);
            E.is("heard", x.pass(3), 1);
            E.is("since", x.since(1, 0), 0);
            E.is("on the way", x.count(8), 0);
        });
        E.test(head + "two in one hour: the tavern sends once for each rumour", () -> {
            TavernRumours x = passed(2, Edges.PAIR + "1;road q from a to b miles 1;rumour s at a on 0;");
            E.is("back on r and q", x.count(8), 2);
        });
        E.test(head + "the others go on with their rumours and miles", () -> {
            TavernRumours x = passed(3, Edges.PAIR + "2;tavern c;road q from b to c miles 6;rumour s at a on 0;"
                    + "rumour t at c on 1;rumour u at c on 2;hush b when 1=1;");
            E.is("s has arrived", x.since(1, 0), 2);
            E.is("with t, with u", x.rumour(1, 3) * 10 + x.rumour(2, 3), 11);
            x.pass(20);
            E.is("t", x.since(1, 1), 7);
            E.is("u", x.since(1, 2), 8);
        });
        E.test(head + "another rumour comes from it in the same hour", () -> {
            TavernRumours x = passed(3, Edges.PAIR + "2;rumour s at a on 0;rumour t at b on 0;");
            E.is("s", x.since(1, 0), 2);
            E.is("t", x.since(0, 1), 2);
            E.is("with s, with t", x.rumour(0, 3) * 10 + x.rumour(1, 3), 11);
        });
    }

    private static void settingOut() {
        String head = "Terms 3, setting out: ";
        E.test(head + "on each open road that leads to it or from it", () -> {
            TavernRumours x = passed(1, Edges.LAND + "rumour l at b on 0;rumour m at d on 0;");
            E.is("on p", x.road(0, 8), 1);
            E.is("on q", x.road(1, 8), 1);
            E.is("on s", x.road(2, 8), 0);
            E.is("on t and u", x.road(3, 8) + x.road(4, 8), 2);
        });
        E.test(head + "also on that by which the rumour came", () -> {
            E.is("on r", passed(2, Edges.PAIR + "1;rumour s at a on 0;").road(0, 8), 1);
        });
        E.test(head + "on a road with two wounds", () -> {
            TavernRumours x = pair("1;rumour s at a on 0;");
            x.hurt(0, 2);
            x.pass(1);
            E.is("on r", x.road(0, 8), 1);
        });
        E.test(head + "not on a broken road", () -> {
            TavernRumours x = pair("1;road q from a to b miles 1;rumour s at a on 0;");
            x.hurt(0, 3);
            x.pass(1);
            E.is("on r", x.road(0, 8), 0);
            E.is("on q", x.road(1, 8), 1);
        });
        E.test(head + "not on a road that an order of this hour breaks", () -> {
            TavernRumours x = passed(1, Edges.PAIR + "1;rumour s at a on 0;hurt r by 3 when hour=0;");
            E.is("on r", x.road(0, 8), 0);
            E.is("lost", x.count(13), 0);
        });
        E.test(head + "on a road that an order of this hour mends", () -> {
            TavernRumours x = pair("1;rumour s at a on 0;mend r when hour=0;");
            x.hurt(0, 3);
            x.pass(1);
            E.is("on r", x.road(0, 8), 1);
        });
        E.test(head + "a traveller for each rumour that it knows", () -> {
            E.is("on r", passed(1, Edges.PAIR + "3;" + Edges.numbered(6, "rumour s", " at a on 0;")).road(0, 8), 6);
        });
        E.test(head + "they go no mile yet in this hour", () -> {
            TavernRumours x = passed(2, Edges.PAIR + "2;rumour s at a on 0;");
            E.is("since", x.since(1, 0), -1);
            x.pass(1);
            E.is("since then", x.since(1, 0), 2);
        });
    }

    private static void sentOnce() {
        String head = "Terms 3, they went out: ";
        E.test(head + "once for each rumour", () -> {
            TavernRumours x = passed(4, Edges.PAIR + "1;rumour s at a on 0;");
            E.is("on the way", x.count(8), 0);
            E.is("heard", x.pass(50), 0);
        });
        E.test(head + "also if there was no open road", () -> {
            TavernRumours x = pair("1;rumour s at a on 0;");
            x.hurt(0, 3);
            x.pass(1);
            x.mend(0);
            E.is("heard", x.pass(50), 0);
        });
        E.test(head + "also if there was no road at all", () -> {
            TavernRumours x = Edges.land("tavern a;rumour s at a on 0;");
            E.is("heard", x.pass(50), 1);
            E.is("on the way", x.count(8), 0);
        });
        E.test(head + "a road that is mended later is left out", () -> {
            TavernRumours x = pair("1;road q from a to b miles 9;rumour s at a on 0;");
            x.hurt(0, 3);
            x.pass(1);
            x.mend(0);
            x.pass(5);
            E.is("since", x.since(1, 0), -1);
            E.is("on r", x.road(0, 8), 0);
        });
        E.test(head + "about one rumour, not about another one", () -> {
            TavernRumours x = passed(9, Edges.PAIR + "1;rumour s at a on 0;rumour t at a on 5;");
            E.is("since", x.since(1, 1), 6);
        });
    }

    private static void hushed() {
        String head = "Terms 3, hushed: ";
        E.test(head + "it sends in the next hour in which it is not", () -> {
            TavernRumours x = passed(1, Edges.PAIR + "1;rumour s at a on 0;hush a when hour=0;");
            E.is("on the way", x.count(8), 0);
            x.pass(1);
            E.is("on the way then", x.count(8), 1);
        });
        E.test(head + "many hours, then it sends", () -> {
            TavernRumours x = passed(50, Edges.PAIR + "1;rumour s at a on 0;hush a when hour<50;");
            E.is("on the way", x.count(8), 0);
            x.pass(1);
            E.is("on the way then", x.count(8), 1);
        });
        E.test(head + "in this hour alone", () -> {
            TavernRumours x = passed(2, Edges.PAIR + "5;rumour s at a on 1;hush a when hour=0;");
            E.is("on the way", x.count(8), 1);
        });
        E.test(head + "it sends on the roads that are open then", () -> {
            TavernRumours x = pair("5;road q from a to b miles 5;rumour s at a on 0;hush a when hour=0;");
            x.hurt(0, 3);
            x.pass(1);
            x.mend(0);
            x.pass(1);
            E.is("on r", x.road(0, 8), 1);
        });
        E.test(head + "other taverns send", () -> {
            TavernRumours x = passed(1, Edges.PAIR + "5;rumour s at a on 0;rumour t at b on 0;hush a when 1=1;");
            E.is("with s", x.rumour(0, 3), 0);
            E.is("with t", x.rumour(1, 3), 1);
        });
        E.test(head + "the last of ten taverns", () -> {
            TavernRumours x = passed(1, Edges.numbered(10, "tavern t", ";") + "road r from t0 to t9 miles 5;"
                    + "rumour s at t9 on 0;hush t9 when hour=0;");
            E.is("on the way", x.count(8), 0);
            x.pass(1);
            E.is("on the way then", x.count(8), 1);
        });
        E.test(head + "for all its rumours, and behind it all are sent", () -> {
            TavernRumours x = passed(1, Edges.PAIR + "5;" + Edges.numbered(6, "rumour s", " at a on 0;")
                    + "hush a when hour=0;");
            E.is("on the way", x.count(8), 0);
            x.pass(1);
            E.is("on the way then", x.count(8), 6);
        });
    }

    private static void hushedAndHears() {
        String head = "Terms 3, hushed: ";
        E.test(head + "it hears a rumour that begins all the same", () -> {
            E.is("since", passed(1, Edges.PAIR + "1;rumour s at a on 0;hush a when 1=1;").since(0, 0), 0);
        });
        E.test(head + "it hears a traveller all the same", () -> {
            E.is("since", passed(5, Edges.PAIR + "1;rumour s at a on 0;hush b when 1=1;").since(1, 0), 1);
        });
        E.test(head + "travellers who set out ahead go on", () -> {
            E.is("since", passed(9, Edges.PAIR + "5;rumour s at a on 0;hush a when hour>0;").since(1, 0), 5);
        });
        E.test(head + "told by hand, it sends behind the hush", () -> {
            TavernRumours x = pair("5;rumour s at a on 50;hush b when hour=0;");
            x.tell(1, 0);
            x.pass(1);
            E.is("on the way", x.count(8), 0);
            x.pass(1);
            E.is("on the way then", x.count(8), 1);
        });
        E.test(head + "one that sent already sends not again", () -> {
            TavernRumours x = passed(1, Edges.PAIR + "5;rumour s at a on 0;hush a when hour=1;");
            x.pass(2);
            E.is("on the way", x.count(8), 1);
        });
    }
}
