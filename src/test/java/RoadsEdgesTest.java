/** Edges of the roads (Terms 2), and of what is told of the land: promises 6 to 14. */
public final class RoadsEdgesTest {
    private static final Edges E = new Edges();
    private static final String LAND = Edges.LAND;

    private RoadsEdgesTest() {
    }

    public static void main(String[] args) {
        woundsAndLengths();
        ways();
        parts();
        spans();
        nets();
        countRange();
        counts();
        manyTravellers();
        taverns();
        roads();
        rumours();
        since();
        far();
        step();
        detour();
        replace();
        E.end("RoadsEdgesTest");
    }

    private static TavernRumours land() {
        return Edges.land(LAND);
    }

    /** The land with two rumours, l at a and m at e, three hours old. */
    private static TavernRumours walked() {
        TavernRumours x = Edges.land(LAND + "rumour l at a on 0;rumour m at e on 1;");
        x.pass(3);
        return x;
    }

    /** As many of all as there may be; the last tavern is joined by the last road. */
    private static TavernRumours full() {
        return Edges.land(Edges.numbered(10, "tavern t", ";") + Edges.numbered(14, "road r", " from t0 to t9 miles 2;")
                + Edges.numbered(6, "rumour s", " at t9 on 0;"));
    }

    private static TavernRumours hurt(TavernRumours x, int... roadsAndWounds) {
        for (int i = 0; i < roadsAndWounds.length; i += 2) {
            x.hurt(roadsAndWounds[i], roadsAndWounds[i + 1]);
        }
        return x;
    }

    private static void woundsAndLengths() {
        E.test("Terms 2, wounds: 0 at first", () -> E.is("wounds", land().road(0, 3), 0));
        for (int wounds = 0; wounds <= 3; wounds++) {
            TavernRumours x = land();
            if (wounds > 0) {
                x.hurt(0, wounds);
            }
            int length = 2 + 2 * wounds;
            int open = wounds < 3 ? 1 : 0;
            int far = wounds < 3 ? length : 9;
            E.test("Terms 2, length: with wounds " + wounds, () -> E.is("length", x.road(0, 4), length));
            E.test("Terms 2, open: with wounds " + wounds, () -> E.is("open", x.road(0, 5), open));
            E.test("Terms 2, a way: over a road with wounds " + wounds, () -> E.is("far", x.far(0, 1), far));
        }
        E.test("Terms 2, length: 30 miles and 3 wounds", () -> {
            E.is("length", hurt(Edges.land(Edges.PAIR + "30;"), 0, 3).road(0, 4), 36);
        });
    }

    private static void ways() {
        E.test("Terms 2, a way: 0 from a tavern to itself", () -> E.is("far", land().far(4, 4), 0));
        E.test("Terms 2, a way: 0 from a tavern without roads to itself", () -> {
            E.is("far", Edges.land("tavern a;").far(0, 0), 0);
        });
        E.test("Terms 2, a way: the shortest one counts, though it goes over more roads", () -> {
            E.is("far", land().far(0, 2), 5);
        });
        E.test("Terms 2, a way: of two roads between two taverns the shorter one", () -> {
            E.is("far", hurt(land(), 3, 1).far(3, 4), 1);
        });
        E.test("Terms 2, a way: two taverns may be joined by two roads, one each way", () -> {
            E.is("far", hurt(land(), 3, 3).far(3, 4), 1);
            E.is("back", hurt(land(), 4, 3).far(4, 3), 1);
        });
        E.test("Terms 2, a way: as long from each of its ends", () -> E.is("far", land().far(2, 0), 5));
        E.test("Terms 2, a way: told against all its roads and their numbers", () -> {
            TavernRumours x = Edges.land(Edges.numbered(5, "tavern t", ";") + "road d from t4 to t3 miles 4;"
                    + "road c from t3 to t2 miles 3;road b from t2 to t1 miles 2;road a from t1 to t0 miles 1;");
            E.is("far", x.far(0, 4), 10);
            E.is("back", x.far(4, 0), 10);
        });
        E.test("Terms 2, a way: over nine roads, each 34 long", () -> {
            E.is("far", chain(30, 2).far(0, 9), 306);
            E.is("back", chain(30, 2).far(9, 0), 306);
        });
    }

    /** Ten taverns in a row. */
    private static TavernRumours chain(int miles, int wounds) {
        StringBuilder list = new StringBuilder(Edges.numbered(10, "tavern t", ";"));
        for (int i = 8; i >= 0; i--) {
            list.append("road r").append(i).append(" from t").append(i).append(" to t").append(i + 1)
                    .append(" miles ").append(miles).append(";");
        }
        TavernRumours x = Edges.land(list.toString());
        for (int i = 0; i < 9 && wounds > 0; i++) {
            x.hurt(i, wounds);
        }
        return x;
    }

    private static void parts() {
        E.test("Terms 2, a part: the smallest of its numbers", () -> {
            E.is("part of c", land().tavern(2, 2), 0);
            E.is("part of e", land().tavern(4, 2), 3);
        });
        E.test("Terms 2, a part: its own number, if it is the smallest", () -> {
            E.is("part of a", land().tavern(0, 2), 0);
            E.is("part of d", land().tavern(3, 2), 3);
        });
        E.test("Terms 2, a part: of a tavern alone it is itself", () -> {
            E.is("part of b", hurt(land(), 0, 3, 1, 3).tavern(1, 2), 1);
        });
        E.test("Terms 2, a part: also if the way to the smallest goes over greater ones", () -> {
            TavernRumours x = Edges.land("tavern a;tavern b;tavern c;road p from b to c miles 1;"
                    + "road q from c to a miles 1;");
            E.is("part of b", x.tavern(1, 2), 0);
        });
        E.test("Terms 2, a part: ten taverns in a row are one", () -> {
            E.is("part of the last one", chain(1, 0).tavern(9, 2), 0);
        });
        E.test("Terms 2, a part: a broken road is no way", () -> {
            E.is("with 2 wounds", hurt(land(), 0, 2, 2, 3).tavern(1, 2), 0);
            E.is("with 3 wounds", hurt(land(), 0, 3, 2, 3).tavern(1, 2), 1);
        });
    }

    private static void spans() {
        E.test("Terms 2, a span: none on a ring", () -> {
            E.is("p", land().road(0, 6), 0);
            E.is("s", land().road(2, 6), 0);
        });
        E.test("Terms 2, a span: none of two roads between two taverns", () -> {
            E.is("t", land().road(3, 6), 0);
            E.is("u", land().road(4, 6), 0);
        });
        E.test("Terms 2, a span: one of two, if the other one is broken", () -> {
            E.is("u", hurt(land(), 3, 3).road(4, 6), 1);
        });
        E.test("Terms 2, a span: not if the other one has two wounds", () -> {
            E.is("u", hurt(land(), 3, 2).road(4, 6), 0);
        });
        E.test("Terms 2, a span: no broken road", () -> {
            TavernRumours x = hurt(land(), 3, 3, 4, 3);
            E.is("t", x.road(3, 6), 0);
            E.is("u", x.road(4, 6), 0);
        });
        E.test("Terms 2, a span: with two wounds it is still one", () -> {
            E.is("u", hurt(land(), 3, 3, 4, 2).road(4, 6), 1);
        });
        E.test("Terms 2, a span: all others of a ring, if one is broken", () -> {
            TavernRumours x = hurt(land(), 2, 3);
            E.is("p and q", x.road(0, 6) + x.road(1, 6), 2);
        });
    }

    private static void nets() {
        E.test("Terms 2, the net: the shortest roads of a ring, not the longest one", () -> {
            TavernRumours x = land();
            E.is("p and q", x.road(0, 7) + x.road(1, 7), 2);
            E.is("s", x.road(2, 7), 0);
        });
        E.test("Terms 2, the net: of those as long the smaller number", () -> {
            TavernRumours x = land();
            E.is("t", x.road(3, 7), 1);
            E.is("u", x.road(4, 7), 0);
        });
        E.test("Terms 2, the net: lengths count, not miles", () -> {
            TavernRumours x = hurt(land(), 3, 1);
            E.is("t", x.road(3, 7), 0);
            E.is("u", x.road(4, 7), 1);
        });
        E.test("Terms 2, the net: a shorter road with a greater number", () -> {
            TavernRumours x = Edges.land(Edges.PAIR + "2;road q from b to a miles 1;");
            E.is("r", x.road(0, 7), 0);
            E.is("q", x.road(1, 7), 1);
        });
        E.test("Terms 2, the net: of three as long on a ring the last one is left out", () -> {
            TavernRumours x = Edges.land("tavern a;tavern b;tavern c;road p from a to b miles 4;"
                    + "road q from b to c miles 4;road r from c to a miles 4;");
            E.is("p and q", x.road(0, 7) + x.road(1, 7), 2);
            E.is("r", x.road(2, 7), 0);
        });
        E.test("Terms 2, the net: no broken road, though nothing else joins its taverns", () -> {
            TavernRumours x = hurt(land(), 3, 3, 4, 3);
            E.is("t and u", x.road(3, 7) + x.road(4, 7), 0);
        });
        E.test("Terms 2, the net: a road with two wounds belongs to it", () -> {
            E.is("u", hurt(land(), 3, 3, 4, 2).road(4, 7), 1);
        });
        E.test("Terms 2, the net: another one, when a road is hurt, and again, when it is mended", () -> {
            TavernRumours x = Edges.land(Edges.PAIR + "1;road q from b to a miles 2;");
            E.is("r", x.road(0, 7), 1);
            x.hurt(0, 1);
            E.is("r hurt", x.road(0, 7), 0);
            E.is("q", x.road(1, 7), 1);
            x.mend(0);
            E.is("r mended", x.road(0, 7), 1);
            E.is("q then", x.road(1, 7), 0);
        });
        E.test("Terms 2, the net: no road that is broken after it was told", () -> {
            TavernRumours x = Edges.land(Edges.PAIR + "1;");
            E.is("r", x.road(0, 7), 1);
            x.hurt(0, 3);
            E.is("r broken", x.road(0, 7), 0);
            E.is("length", x.count(11), 0);
        });
        E.test("Terms 2, the net: taverns joined over more than one road of it", () -> {
            TavernRumours x = Edges.land(Edges.numbered(4, "tavern t", ";") + "road p from t0 to t1 miles 1;"
                    + "road q from t2 to t3 miles 1;road r from t1 to t2 miles 2;road s from t3 to t0 miles 3;");
            E.is("r", x.road(2, 7), 1);
            E.is("s", x.road(3, 7), 0);
        });
    }

    private static void countRange() {
        E.range("Promise 6, count: what", RoadsEdgesTest::walked, Edges.IOOBE, 0, 14, TavernRumours::count);
        E.range("Promise 6, count: what, on a new object,", TavernRumours::new, Edges.IOOBE, 0, 14,
                TavernRumours::count);
    }

    private static void count(String edge, TavernRumours x, int what, int want) {
        E.test("Promise 6, count: " + edge, () -> E.is("count " + what, x.count(what), want));
    }

    private static void counts() {
        count("the hour 0", land(), 0, 0);
        count("five open roads", land(), 5, 5);
        count("a road with two wounds is open", hurt(land(), 0, 2), 5, 5);
        count("a road with three wounds is not open", hurt(land(), 0, 3), 5, 4);
        TavernRumours broken = hurt(land(), 0, 3, 1, 3, 2, 3, 3, 3, 4, 3);
        count("no open road, all broken", broken, 5, 0);
        count("no span without an open road", broken, 6, 0);
        count("as many parts as taverns without an open road", broken, 7, 5);
        count("no length of the net without an open road", broken, 11, 0);
        count("no span with a wound without an open road", broken, 12, 0);
        count("no span on rings", land(), 6, 0);
        count("all roads of a row are spans", chain(1, 0), 6, 9);
        count("one part, if all are joined", chain(1, 0), 7, 1);
        count("two parts", land(), 7, 2);
        count("the length of the net of a row", chain(30, 2), 11, 306);
        count("the net with wounds, without the roads that it left out", hurt(land(), 0, 1, 4, 1), 11, 4 + 3 + 1);
        count("spans without a wound do not count with wounds", chain(1, 0), 12, 0);
        count("spans with a wound or more", hurt(chain(1, 0), 2, 1, 5, 2), 12, 2);
        count("no wounded road that is no span", hurt(land(), 0, 1), 12, 0);
        count("no broken road among spans with a wound", hurt(chain(1, 0), 2, 3), 12, 0);
        count("nobody knows a rumour that has not begun", Edges.land("tavern a;rumour s at a on 0;"), 9, 0);
        TavernRumours full = full();
        full.pass(3);
        count("two taverns that know six rumours", full, 9, 12);
        TavernRumours tape = land();
        Due.write(tape, "1234567");
        count("bytes of the tape", tape, 14, 7);
        TavernRumours fullTape = land();
        for (int i = 0; i < 100; i++) {
            fullTape.feed(0, 0, 0, 0, 0);
        }
        count("bytes of a full tape", fullTape, 14, 2000);
        TavernRumours lost = hurt(walked(), 2, 3);
        count("travellers on a road just broken by hand are not lost yet", lost, 13, 0);
        TavernRumours later = hurt(walked(), 2, 3);
        later.pass(1);
        count("travellers who were lost", later, 13, 1);
        later.pass(50);
        count("travellers who were lost, in all, also later", later, 13, 1);
    }

    /** Two taverns that know all six rumours at once send on fourteen roads. */
    private static void manyTravellers() {
        TavernRumours x = Edges.land("tavern a;tavern b;" + Edges.numbered(14, "road r", " from a to b miles 30;")
                + Edges.numbered(6, "rumour s", " at a on 50;"));
        for (int s = 0; s < 6; s++) {
            x.tell(0, s);
            x.tell(1, s);
        }
        x.pass(1);
        count("as many travellers as there can be", x, 8, 168);
        E.test("Promise 8, road: as many travellers as there can be on one", () -> E.is("on it", x.road(13, 8), 12));
        E.test("Promise 9, rumour: as many travellers as there can be with one", () -> {
            E.is("with it", x.rumour(5, 3), 28);
        });
        E.test("Terms 3, travellers: as many as there can be arrive in one hour, and nobody sends again", () -> {
            TavernRumours y = Edges.land("tavern a;tavern b;" + Edges.numbered(14, "road r", " from a to b miles 2;")
                    + Edges.numbered(6, "rumour s", " at a on 50;"));
            for (int s = 0; s < 6; s++) {
                y.tell(0, s);
                y.tell(1, s);
            }
            E.is("heard", y.pass(3), 0);
            E.is("on the way", y.count(8), 0);
        });
        E.test("Terms 3, travellers: as many as there can be are lost in one hour", () -> {
            for (int r = 0; r < 14; r++) {
                x.hurt(r, 3);
            }
            x.pass(1);
            E.is("lost", x.count(13), 168);
            E.is("on the way", x.count(8), 0);
        });
    }

    private static void taverns() {
        E.range("Promise 7, tavern: tavern", RoadsEdgesTest::land, Edges.IOOBE, 0, 4, (x, t) -> x.tavern(t, 0));
        E.range("Promise 7, tavern: tavern of ten", RoadsEdgesTest::full, Edges.IOOBE, 0, 9, (x, t) -> x.tavern(t, 3));
        E.range("Promise 7, tavern: what", RoadsEdgesTest::land, Edges.IOOBE, 0, 3, (x, what) -> x.tavern(4, what));
        TavernRumours y = land();
        E.refused("Promise 7, tavern: neither tavern nor what is right", y, Edges.IOOBE, () -> y.tavern(5, 4));
        E.test("Promise 7, tavern: open roads to it and from it, also two to one tavern", () -> {
            E.is("open roads of d", land().tavern(3, 0), 2);
        });
        E.test("Promise 7, tavern: no open road", () -> E.is("open", hurt(land(), 3, 3, 4, 3).tavern(3, 0), 0));
        E.test("Promise 7, tavern: a road with two wounds is open", () -> {
            E.is("open", hurt(land(), 3, 2, 4, 3).tavern(3, 0), 1);
        });
        E.test("Promise 7, tavern: all of fourteen roads", () -> E.is("open", full().tavern(9, 0), 14));
        E.test("Promise 7, tavern: no rumour that it knows", () -> E.is("known", walked().tavern(2, 1), 0));
        E.test("Promise 7, tavern: all six rumours", () -> {
            TavernRumours x = full();
            x.pass(1);
            E.is("known", x.tavern(9, 1), 6);
        });
        E.test("Promise 7, tavern: 0 to the farthest one, if it is alone", () -> {
            E.is("farthest", full().tavern(5, 3), 0);
        });
        E.test("Promise 7, tavern: the farthest one of its own part, not of others", () -> {
            E.is("from d", land().tavern(3, 3), 1);
            E.is("from a", land().tavern(0, 3), 5);
        });
        E.test("Promise 7, tavern: the farthest one may be the first one", () -> {
            E.is("from c", land().tavern(2, 3), 5);
            E.is("from e", land().tavern(4, 3), 1);
        });
        E.test("Promise 7, tavern: the farthest one of ten in a row", () -> {
            E.is("from the first one", chain(30, 2).tavern(0, 3), 306);
            E.is("from the fifth one", chain(30, 2).tavern(4, 3), 170);
        });
    }

    private static void roads() {
        E.range("Promise 8, road: road", RoadsEdgesTest::land, Edges.IOOBE, 0, 4, (x, r) -> x.road(r, 0));
        E.range("Promise 8, road: road of fourteen", RoadsEdgesTest::full, Edges.IOOBE, 0, 13, (x, r) -> x.road(r, 8));
        E.range("Promise 8, road: what", RoadsEdgesTest::land, Edges.IOOBE, 0, 8, (x, what) -> x.road(4, what));
        TavernRumours y = land();
        E.refused("Promise 8, road: neither road nor what is right", y, Edges.IOOBE, () -> y.road(5, 9));
        E.test("Promise 8, road: the last of fourteen", () -> {
            TavernRumours x = full();
            E.is("from", x.road(13, 0), 0);
            E.is("to", x.road(13, 1), 9);
            E.is("miles", x.road(13, 2), 2);
        });
        E.test("Promise 8, road: 0 for open, span and net, if it is broken", () -> {
            TavernRumours x = hurt(chain(1, 0), 0, 3);
            E.is("open, span, net", x.road(0, 5) + x.road(0, 6) + x.road(0, 7), 0);
        });
        E.test("Promise 8, road: 1 for open, span and net", () -> {
            TavernRumours x = chain(1, 2);
            E.is("open", x.road(0, 5), 1);
            E.is("span", x.road(0, 6), 1);
            E.is("net", x.road(0, 7), 1);
        });
        E.test("Promise 8, road: nobody on it", () -> E.is("on p", land().road(0, 8), 0));
        E.test("Promise 8, road: still on it, if it has just been broken by hand", () -> {
            E.is("on s", hurt(walked(), 2, 3).road(2, 8), 1);
        });
    }

    private static void rumours() {
        E.range("Promise 9, rumour: rumour", RoadsEdgesTest::walked, Edges.IOOBE, 0, 1, (x, s) -> x.rumour(s, 0));
        E.range("Promise 9, rumour: rumour of six", RoadsEdgesTest::full, Edges.IOOBE, 0, 5, (x, s) -> x.rumour(s, 2));
        E.range("Promise 9, rumour: what", RoadsEdgesTest::walked, Edges.IOOBE, 0, 3, (x, what) -> x.rumour(1, what));
        TavernRumours y = walked();
        E.refused("Promise 9, rumour: neither rumour nor what is right", y, Edges.IOOBE, () -> y.rumour(2, 4));
        TavernRumours none = land();
        E.refused("Promise 9, rumour: refused, if there are taverns and roads alone", none, Edges.IOOBE,
                () -> none.rumour(0, 0));
        E.test("Promise 9, rumour: known by none, carried by none ahead of its hour", () -> {
            TavernRumours x = Edges.land("tavern a;rumour s at a on 3;");
            x.pass(3);
            E.is("known", x.rumour(0, 2), 0);
            E.is("carried", x.rumour(0, 3), 0);
        });
        E.test("Promise 9, rumour: known by all", () -> {
            TavernRumours x = Edges.land(Edges.PAIR + "1;rumour s at a on 0;");
            x.pass(2);
            E.is("known", x.rumour(0, 2), 2);
        });
        E.test("Promise 9, rumour: its hour, though it begins never", () -> {
            TavernRumours x = new TavernRumours();
            x.pass(9);
            Due.teach(x, "tavern a;rumour s at a on 3;");
            E.is("hour", x.rumour(0, 1), 3);
        });
    }

    private static void since() {
        E.range("Promise 10, since: tavern", RoadsEdgesTest::walked, Edges.IOOBE, 0, 4, (x, t) -> x.since(t, 1));
        E.range("Promise 10, since: rumour", RoadsEdgesTest::walked, Edges.IOOBE, 0, 1, (x, s) -> x.since(4, s));
        E.range("Promise 10, since: tavern of ten", RoadsEdgesTest::full, Edges.IOOBE, 0, 9, (x, t) -> x.since(t, 5));
        E.range("Promise 10, since: rumour of six", RoadsEdgesTest::full, Edges.IOOBE, 0, 5, (x, s) -> x.since(9, s));
        E.test("Promise 10, since: the hour 0", () -> E.is("since", walked().since(0, 0), 0));
        E.test("Promise 10, since: -1 if it does not know it", () -> E.is("since", walked().since(2, 0), -1));
        E.test("Promise 10, since: -1 ahead of its hour", () -> {
            E.is("since", Edges.land("tavern a;rumour s at a on 0;").since(0, 0), -1);
        });
        E.test("Promise 10, since: the hour 99", () -> {
            TavernRumours x = Edges.land("tavern a;rumour s at a on 99;");
            x.pass(100);
            E.is("since", x.since(0, 0), 99);
        });
        E.test("Promise 10, since: the last tavern and the last rumour", () -> {
            TavernRumours x = full();
            x.tell(8, 5);
            x.pass(4);
            E.is("of the last one", x.since(9, 5), 0);
            E.is("over a road", x.since(0, 5), 2);
            E.is("told", x.since(8, 5), 0);
            E.is("another rumour", x.since(8, 4), -1);
        });
    }

    private static void far() {
        E.range("Promise 11, far: a", RoadsEdgesTest::land, Edges.IOOBE, 0, 4, (x, a) -> x.far(a, 0));
        E.range("Promise 11, far: b", RoadsEdgesTest::land, Edges.IOOBE, 0, 4, (x, b) -> x.far(0, b));
        E.range("Promise 11, far: both, the same,", RoadsEdgesTest::land, Edges.IOOBE, 0, 4, (x, a) -> x.far(a, a));
        E.range("Promise 11, far: a of ten", RoadsEdgesTest::full, Edges.IOOBE, 0, 9, (x, a) -> x.far(a, 9));
        E.test("Promise 11, far: -1 without a way", () -> E.is("far", land().far(0, 3), -1));
        E.test("Promise 11, far: -1, when the last way is broken", () -> {
            E.is("far", hurt(land(), 3, 3, 4, 3).far(3, 4), -1);
        });
        E.test("Promise 11, far: again, when it is mended by one wound", () -> {
            TavernRumours x = hurt(land(), 3, 3, 4, 3);
            E.is("far", x.far(3, 4), -1);
            x.mend(4);
            E.is("far then", x.far(3, 4), 5);
        });
        E.test("Promise 11, far: 0 to itself", () -> E.is("far", land().far(2, 2), 0));
        E.test("Promise 11, far: other, as soon as miles are set", () -> {
            TavernRumours x = land();
            E.is("far", x.far(0, 2), 5);
            x.setMiles(2, 1);
            E.is("far then", x.far(0, 2), 1);
        });
    }

    private static void step() {
        E.range("Promise 12, step: a", RoadsEdgesTest::land, Edges.IOOBE, 0, 4, (x, a) -> x.step(a, 0));
        E.range("Promise 12, step: b", RoadsEdgesTest::land, Edges.IOOBE, 0, 4, (x, b) -> x.step(0, b));
        E.range("Promise 12, step: both, the same,", RoadsEdgesTest::land, Edges.IOOBE, 0, 4, (x, a) -> x.step(a, a));
        E.test("Promise 12, step: a itself, if both are the same", () -> E.is("step", land().step(3, 3), 3));
        E.test("Promise 12, step: a itself, also without any road", () -> {
            E.is("step", Edges.land("tavern a;tavern b;").step(1, 1), 1);
        });
        E.test("Promise 12, step: -1 without a way", () -> E.is("step", land().step(0, 3), -1));
        E.test("Promise 12, step: -1 over a broken road", () -> {
            E.is("step", hurt(land(), 3, 3, 4, 3).step(3, 4), -1);
        });
        E.test("Promise 12, step: b itself, if it is the next one", () -> E.is("step", land().step(0, 1), 1));
        E.test("Promise 12, step: the next one, not b", () -> E.is("step", land().step(0, 2), 1));
        String square = Edges.numbered(4, "tavern t", ";")
                + "road p from t0 to t2 miles 1;road q from t2 to t3 miles 2;"
                + "road r from t0 to t1 miles 2;road s from t1 to t3 miles 1;road u from t0 to t3 miles ";
        E.test("Promise 12, step: of several the smallest number, not the first road", () -> {
            E.is("step", Edges.land(square + "30;").step(0, 3), 1);
        });
        E.test("Promise 12, step: of several the smallest number, also if b is the next one too", () -> {
            E.is("step", Edges.land(square + "3;").step(0, 3), 1);
        });
        E.test("Promise 12, step: only on a shortest way", () -> E.is("step", Edges.land(square + "2;").step(0, 3), 3));
        E.test("Promise 12, step: the smallest number may be b", () -> E.is("step", Edges.land(square + "3;").step(3,
                0), 0));
    }

    private static void detour() {
        E.range("Promise 13, detour: road", RoadsEdgesTest::land, Edges.IOOBE, 0, 4, TavernRumours::detour);
        E.range("Promise 13, detour: road of fourteen", RoadsEdgesTest::full, Edges.IOOBE, 0, 13,
                TavernRumours::detour);
        E.test("Promise 13, detour: of an open road", () -> E.is("detour", land().detour(0), 9));
        E.test("Promise 13, detour: of a road that is not open", () -> E.is("detour", hurt(land(), 0, 3).detour(0), 9));
        E.test("Promise 13, detour: -1 of a span", () -> E.is("detour", chain(1, 0).detour(4), -1));
        E.test("Promise 13, detour: -1 of a broken road without another way", () -> {
            E.is("detour", hurt(chain(1, 0), 4, 3).detour(4), -1);
        });
        E.test("Promise 13, detour: the other one of two roads", () -> E.is("detour", hurt(land(), 4, 1).detour(3), 3));
        E.test("Promise 13, detour: it may be shorter than the road", () -> E.is("detour", land().detour(2), 5));
        E.test("Promise 13, detour: not over a broken road", () -> E.is("detour", hurt(land(), 1, 3).detour(0), -1));
        E.test("Promise 13, detour: ways over the road are told as ahead", () -> {
            TavernRumours x = land();
            x.detour(0);
            E.is("far", x.far(0, 1), 2);
        });
    }

    private static void replace() {
        E.range("Promise 14, replace: road", RoadsEdgesTest::land, Edges.IOOBE, 0, 4, TavernRumours::replace);
        E.range("Promise 14, replace: road of fourteen", RoadsEdgesTest::full, Edges.IOOBE, 0, 13,
                TavernRumours::replace);
        E.test("Promise 14, replace: -1 of a span", () -> E.is("replace", chain(1, 0).replace(4), -1));
        E.test("Promise 14, replace: -1 of an open road that does not belong to the net", () -> {
            E.is("replace", land().replace(2), -1);
        });
        E.test("Promise 14, replace: -1 of a broken road", () -> E.is("replace", hurt(land(), 0, 3).replace(0), -1));
        E.test("Promise 14, replace: the only one that could", () -> E.is("replace", land().replace(1), 2));
        E.test("Promise 14, replace: the first road", () -> {
            TavernRumours x = Edges.land(Edges.PAIR + "9;road q from a to b miles 1;");
            E.is("replace", x.replace(1), 0);
        });
        E.test("Promise 14, replace: the other one of two as long", () -> E.is("replace", land().replace(3), 4));
        E.test("Promise 14, replace: of several as long the smallest number", () -> {
            E.is("replace", full().replace(0), 1);
        });
        E.test("Promise 14, replace: the shorter one, though its number is greater", () -> {
            E.is("replace", hurt(full(), 1, 1).replace(0), 2);
        });
        E.test("Promise 14, replace: no broken road", () -> E.is("replace", hurt(land(), 4, 3).replace(3), -1));
        E.test("Promise 14, replace: the net is told as ahead", () -> {
            TavernRumours x = land();
            x.replace(0);
            E.is("p", x.road(0, 7), 1);
            E.is("s", x.road(2, 7), 0);
            E.is("length", x.count(11), 6);
        });
    }
}
