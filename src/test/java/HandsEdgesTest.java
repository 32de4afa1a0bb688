/** Edges of what is done by hand: promises 15 to 18. */
public final class HandsEdgesTest {
    private static final Edges E = new Edges();

    private HandsEdgesTest() {
    }

    public static void main(String[] args) {
        hurt();
        mend();
        tell();
        toldAhead();
        setMiles();
        milesOnTheWay();
        E.end("HandsEdgesTest");
    }

    private static TavernRumours land() {
        return Edges.land(Edges.LAND + "rumour l at a on 0;rumour m at e on 9;");
    }

    /** Each road has one wound. */
    private static TavernRumours wounded() {
        TavernRumours x = land();
        for (int r = 0; r < 5; r++) {
            x.hurt(r, 1);
        }
        return x;
    }

    private static TavernRumours full() {
        return Edges.land(Edges.numbered(10, "tavern t", ";") + Edges.numbered(14, "road r", " from t0 to t9 miles 2;")
                + Edges.numbered(6, "rumour s", " at t9 on 50;"));
    }

    private static TavernRumours pair(String behind) {
        return Edges.land(Edges.PAIR + behind);
    }

    private static void hurt() {
        E.range("Promise 15, hurt: road", HandsEdgesTest::land, Edges.IOOBE, 0, 4, (x, r) -> x.hurt(r, 1));
        E.range("Promise 15, hurt: road of fourteen", HandsEdgesTest::full, Edges.IOOBE, 0, 13, (x, r) -> x.hurt(r, 3));
        E.range("Promise 15, hurt: by", HandsEdgesTest::land, Edges.IAE, 1, 3, (x, by) -> x.hurt(4, by));
        TavernRumours y = land();
        E.refused("Promise 15, hurt: neither road nor by is right", y, Edges.IOOBE, () -> y.hurt(5, 0));
        TavernRumours none = new TavernRumours();
        E.refused("Promise 15, hurt: no road 0 of a new object", none, Edges.IOOBE, () -> none.hurt(0, 1));
        TavernRumours broken = land();
        broken.hurt(0, 3);
        E.refused("Promise 15, hurt: by 4 of a broken road", broken, Edges.IAE, () -> broken.hurt(0, 4));
        for (int ahead = 1; ahead <= 3; ahead++) {
            for (int by = 1; by <= 3; by++) {
                int before = ahead;
                int one = by;
                E.test("Promise 15, hurt: by " + by + " with " + ahead + " wounds ahead, at most 3", () -> {
                    TavernRumours x = land();
                    E.is("hurt", x.hurt(2, before), before);
                    int then = Math.min(3, before + one);
                    E.is("hurt again", x.hurt(2, one), then);
                    E.is("wounds", x.road(2, 3), then);
                });
            }
        }
        E.test("Promise 15, hurt: a road with 3 wounds is broken, though nobody is lost yet", () -> {
            TavernRumours x = land();
            x.pass(1);
            x.hurt(0, 3);
            E.is("open", x.road(0, 5), 0);
            E.is("lost", x.count(13), 0);
            E.is("on it", x.road(0, 8), 1);
        });
        E.test("Promise 15, hurt: it is no order carried out", () -> {
            TavernRumours x = land();
            x.hurt(0, 3);
            E.is("carried out", x.count(10), 0);
        });
        E.test("Promise 15, hurt: no other road is hurt", () -> {
            TavernRumours x = land();
            x.hurt(2, 3);
            E.is("wounds", x.road(0, 3) + x.road(1, 3) + x.road(3, 3) + x.road(4, 3), 0);
        });
    }

    private static void mend() {
        E.range("Promise 16, mend: road", HandsEdgesTest::wounded, Edges.IOOBE, 0, 4, TavernRumours::mend);
        E.range("Promise 16, mend: road of two", HandsEdgesTest::twoWounded, Edges.IOOBE, 0, 1, TavernRumours::mend);
        TavernRumours whole = land();
        E.refused("Promise 16, mend: neither is there such a road nor has any a wound", whole, Edges.IOOBE,
                () -> whole.mend(5));
        for (int wounds = 3; wounds >= 1; wounds--) {
            int before = wounds;
            E.test("Promise 16, mend: with " + wounds + " wounds ahead", () -> {
                TavernRumours x = land();
                x.hurt(1, before);
                E.is("mend", x.mend(1), before - 1);
                E.is("wounds", x.road(1, 3), before - 1);
                E.is("open", x.road(1, 5), 1);
            });
        }
        TavernRumours y = land();
        E.refused("Promise 16, mend: refused without wounds", y, Edges.ISE, () -> y.mend(0));
        E.test("Promise 16, mend: refused, when the last wound is mended", () -> {
            TavernRumours x = wounded();
            x.mend(0);
            E.refuses(x, Edges.ISE, () -> x.mend(0));
        });
        E.test("Promise 16, mend: it is no order carried out", () -> {
            TavernRumours x = wounded();
            x.mend(0);
            E.is("carried out", x.count(10), 0);
        });
    }

    private static TavernRumours twoWounded() {
        TavernRumours x = pair("1;road q from a to b miles 1;");
        x.hurt(0, 1);
        x.hurt(1, 1);
        return x;
    }

    private static void tell() {
        E.range("Promise 17, tell: tavern", HandsEdgesTest::land, Edges.IOOBE, 0, 4, (x, t) -> x.tell(t, 1));
        E.range("Promise 17, tell: rumour", HandsEdgesTest::land, Edges.IOOBE, 0, 1, (x, s) -> x.tell(4, s));
        E.range("Promise 17, tell: tavern of ten", HandsEdgesTest::full, Edges.IOOBE, 0, 9, (x, t) -> x.tell(t, 5));
        E.range("Promise 17, tell: rumour of six", HandsEdgesTest::full, Edges.IOOBE, 0, 5, (x, s) -> x.tell(9, s));
        TavernRumours y = land();
        E.refused("Promise 17, tell: neither tavern nor rumour is right", y, Edges.IOOBE, () -> y.tell(5, 2));
        TavernRumours told = land();
        told.tell(3, 0);
        E.refused("Promise 17, tell: refused, if it was told by hand", told, Edges.ISE, () -> told.tell(3, 0));
        TavernRumours heard = land();
        heard.pass(1);
        E.refused("Promise 17, tell: refused, if the rumour began there", heard, Edges.ISE, () -> heard.tell(0, 0));
        TavernRumours reached = land();
        reached.pass(3);
        E.refused("Promise 17, tell: refused, if a traveller told it", reached, Edges.ISE, () -> reached.tell(1, 0));
        E.test("Promise 17, tell: not refused an hour ahead of its beginning there", () -> {
            TavernRumours x = land();
            E.is("tell", x.tell(0, 0), 1);
        });
        E.test("Promise 17, tell: how many taverns know it then, from the first to the last", () -> {
            TavernRumours x = full();
            for (int t = 0; t < 10; t++) {
                E.is("tell " + t, x.tell(t, 3), t + 1);
            }
        });
        E.test("Promise 17, tell: another rumour is not told", () -> {
            TavernRumours x = land();
            x.tell(3, 0);
            E.is("since", x.since(3, 1), -1);
        });
        E.test("Promise 17, tell: it hears it in this hour, also 0", () -> {
            TavernRumours x = land();
            x.tell(3, 1);
            E.is("since", x.since(3, 1), 0);
        });
        E.test("Promise 17, tell: it hears it in this hour, not in the one ahead", () -> {
            TavernRumours x = land();
            x.pass(4);
            x.tell(3, 1);
            E.is("since", x.since(3, 1), 4);
        });
    }

    private static void toldAhead() {
        E.test("Promise 17, tell: one that has not begun is carried all the same", () -> {
            TavernRumours x = pair("2;rumour s at a on 50;");
            x.tell(1, 0);
            E.is("nobody sets out at once", x.count(8), 0);
            x.pass(1);
            E.is("in the next hour they do", x.count(8), 1);
            E.is("heard", x.pass(2), 1);
            E.is("since", x.since(0, 0), 2);
        });
        E.test("Promise 17, tell: one that begins never, for its hour has gone by", () -> {
            TavernRumours x = new TavernRumours();
            x.pass(9);
            Due.teach(x, Edges.PAIR + "2;rumour s at a on 3;");
            E.is("tell", x.tell(0, 0), 1);
            E.is("since", x.since(0, 0), 9);
            E.is("heard", x.pass(3), 1);
        });
        E.test("Promise 17, tell: told ahead at its own tavern, its beginning changes nothing", () -> {
            TavernRumours x = pair("2;rumour s at a on 5;");
            x.tell(0, 0);
            E.is("b hears", x.pass(6), 1);
            E.is("since", x.since(0, 0), 0);
        });
        E.test("Promise 17, tell: told ahead elsewhere, it begins all the same", () -> {
            TavernRumours x = Edges.land("tavern a;tavern b;rumour s at a on 5;");
            x.tell(1, 0);
            E.is("heard", x.pass(6), 1);
            E.is("since", x.since(0, 0), 5);
        });
    }

    private static void setMiles() {
        E.range("Promise 18, setMiles: road", HandsEdgesTest::land, Edges.IOOBE, 0, 4, (x, r) -> x.setMiles(r, 7));
        E.range("Promise 18, setMiles: road of fourteen", HandsEdgesTest::full, Edges.IOOBE, 0, 13,
                (x, r) -> x.setMiles(r, 30));
        E.range("Promise 18, setMiles: miles", HandsEdgesTest::land, Edges.IAE, 1, 30, (x, miles) -> x.setMiles(4,
                miles));
        TavernRumours y = land();
        E.refused("Promise 18, setMiles: neither road nor miles are right", y, Edges.IOOBE, () -> y.setMiles(5, 31));
        E.test("Promise 18, setMiles: those before, first those of the list, then those set", () -> {
            TavernRumours x = land();
            E.is("setMiles", x.setMiles(2, 30), 6);
            E.is("setMiles", x.setMiles(2, 1), 30);
            E.is("miles", x.road(2, 2), 1);
        });
        E.test("Promise 18, setMiles: to as many as there are", () -> E.is("setMiles", land().setMiles(2, 6), 6));
        E.test("Promise 18, setMiles: wounds stay, and lengthen it", () -> {
            TavernRumours x = wounded();
            x.setMiles(2, 30);
            E.is("wounds", x.road(2, 3), 1);
            E.is("length", x.road(2, 4), 32);
        });
        E.test("Promise 18, setMiles: of a broken road, which stays broken", () -> {
            TavernRumours x = land();
            x.hurt(2, 3);
            E.is("setMiles", x.setMiles(2, 1), 6);
            E.is("open", x.road(2, 5), 0);
            E.is("length", x.road(2, 4), 7);
        });
        E.test("Promise 18, setMiles: the net is another one at once", () -> {
            TavernRumours x = land();
            E.is("in the net", x.road(2, 7), 0);
            x.setMiles(2, 2);
            E.is("in the net then", x.road(2, 7), 1);
            E.is("length", x.count(11), 2 + 2 + 1);
        });
    }

    private static void milesOnTheWay() {
        E.test("Promise 18, setMiles: as many as a traveller will have gone: he arrives", () -> {
            TavernRumours x = pair("9;rumour s at a on 0;");
            x.pass(4);
            x.setMiles(0, 4);
            E.is("heard", x.pass(1), 1);
            E.is("since", x.since(1, 0), 4);
        });
        E.test("Promise 18, setMiles: one more than a traveller will have gone: he does not arrive", () -> {
            TavernRumours x = pair("9;rumour s at a on 0;");
            x.pass(4);
            x.setMiles(0, 5);
            E.is("heard", x.pass(1), 0);
            E.is("on it", x.road(0, 8), 1);
        });
        E.test("Promise 18, setMiles: fewer than a traveller has gone: he arrives in the next hour", () -> {
            TavernRumours x = pair("9;rumour s at a on 0;");
            x.pass(6);
            x.setMiles(0, 1);
            E.is("known", x.count(9), 1);
            E.is("heard", x.pass(1), 1);
            E.is("since", x.since(1, 0), 6);
        });
        E.test("Promise 18, setMiles: more than there were: he arrives later", () -> {
            TavernRumours x = pair("2;rumour s at a on 0;");
            x.pass(2);
            x.setMiles(0, 30);
            E.is("heard", x.pass(28), 0);
            E.is("heard then", x.pass(1), 1);
            E.is("since", x.since(1, 0), 30);
        });
    }
}
