import java.math.BigInteger;

/** Edges of what would be: promises 20 to 25. */
public final class FutureEdgesTest {
    private static final Edges E = new Edges();
    /** Three open roads with wounds by and by, some broken and mended, a hush, and two rumours. */
    private static final String EVENTFUL = Edges.LAND + "rumour l at a on 0;rumour m at d on 3;"
            + "hurt p by 1 when hour=1;hurt s by 3 when hour=4;hurt t by 2 when hour=5;hurt u by 3 when hour=3;"
            + "hush b when hour<4;mend p when hour=40;hurt q by 3 when hour=70;mend u when hour=99;";

    private FutureEdgesTest() {
    }

    public static void main(String[] args) {
        untilRange();
        until();
        foreseeRange();
        foresee();
        adviseRange();
        advise();
        adviseNone();
        adviseHours();
        best();
        bestOfSeveral();
        changesNothing();
        mean();
        digest();
        E.end("FutureEdgesTest");
    }

    private static TavernRumours eventful() {
        return Edges.land(EVENTFUL);
    }

    private static TavernRumours full() {
        return Edges.land(Edges.numbered(10, "tavern t", ";") + Edges.numbered(14, "road r", " from t0 to t9 miles 2;")
                + Edges.numbered(6, "rumour s", " at t9 on 50;"));
    }

    private static TavernRumours pair(String behind) {
        return Edges.land(Edges.PAIR + behind);
    }

    private static TavernRumours hurt(TavernRumours x, int... roadsAndWounds) {
        for (int i = 0; i < roadsAndWounds.length; i += 2) {
            x.hurt(roadsAndWounds[i], roadsAndWounds[i + 1]);
        }
        return x;
    }

    private static void untilRange() {
        E.range("Promise 20, until: rumour", FutureEdgesTest::eventful, Edges.IOOBE, 0, 1, TavernRumours::until);
        E.range("Promise 20, until: rumour of six", FutureEdgesTest::full, Edges.IOOBE, 0, 5, TavernRumours::until);
        TavernRumours none = new TavernRumours();
        E.refused("Promise 20, until: no rumour 0 of a new object", none, Edges.IOOBE, () -> none.until(0));
    }

    private static void until() {
        String head = "Promise 20, until: ";
        E.test(head + "0 if all know it now, by hand", () -> {
            TavernRumours x = pair("1;rumour s at a on 50;");
            x.tell(0, 0);
            x.tell(1, 0);
            E.is("until", x.until(0), 0);
        });
        E.test(head + "0 if all know it now, since the hour ahead", () -> {
            TavernRumours x = pair("1;rumour s at a on 0;");
            x.pass(2);
            E.is("until", x.until(0), 0);
        });
        E.test(head + "not 0 if all but one know it", () -> {
            TavernRumours x = pair("1;rumour s at a on 0;");
            x.pass(1);
            E.is("until", x.until(0), 1);
        });
        E.test(head + "1 if it begins in this hour at the only tavern", () -> {
            E.is("until", Edges.land("tavern a;rumour s at a on 0;").until(0), 1);
        });
        E.test(head + "100 if it begins in the hour 99 at the only tavern", () -> {
            E.is("until", Edges.land("tavern a;rumour s at a on 99;").until(0), 100);
        });
        E.test(head + "119", () -> E.is("until", pair("19;rumour s at a on 99;").until(0), 119));
        E.test(head + "120 at most", () -> E.is("until", pair("20;rumour s at a on 99;").until(0), 120));
        E.test(head + "-1 if all know it behind 121 hours", () -> {
            E.is("until", pair("21;rumour s at a on 99;").until(0), -1);
        });
        E.test(head + "120 from this hour on, not from the hour 0", () -> {
            TavernRumours x = pair("21;rumour s at a on 99;");
            x.pass(1);
            E.is("until", x.until(0), 120);
        });
        E.test(head + "-1 if there is no way", () -> {
            E.is("until", Edges.land("tavern a;tavern b;rumour s at a on 0;").until(0), -1);
        });
        E.test(head + "-1 if it begins never", () -> {
            TavernRumours x = new TavernRumours();
            x.pass(4);
            Due.teach(x, "tavern a;rumour s at a on 3;");
            E.is("until", x.until(0), -1);
        });
        E.test(head + "orders are given meanwhile", () -> {
            E.is("broken", pair("5;rumour s at a on 0;hurt r by 3 when hour=2;").until(0), -1);
            E.is("longer", pair("5;rumour s at a on 0;hurt r by 2 when hour=2;").until(0), 10);
            E.is("hushed", pair("5;rumour s at a on 0;hush a when hour<9;").until(0), 15);
        });
        E.test(head + "of ten taverns all", () -> {
            StringBuilder list = new StringBuilder(Edges.numbered(10, "tavern t", ";"));
            for (int i = 0; i < 9; i++) {
                list.append("road r").append(i).append(" from t").append(i).append(" to t").append(i + 1)
                        .append(" miles 2;");
            }
            E.is("until", Edges.land(list + "rumour s at t0 on 0;").until(0), 19);
        });
    }

    private static void foreseeRange() {
        E.range("Promise 21, foresee: hours", FutureEdgesTest::eventful, Edges.IAE, 1, 100, (x, h) -> x.foresee(h, 9));
        E.range("Promise 21, foresee: what", FutureEdgesTest::eventful, Edges.IOOBE, 5, 13, (x, w) -> x.foresee(3, w));
        E.range("Promise 21, foresee: hours, on a new object,", TavernRumours::new, Edges.IAE, 1, 100,
                (x, h) -> x.foresee(h, 5));
        for (int what : new int[] {0, 1, 2, 3, -1}) {
            TavernRumours x = eventful();
            E.refused("Promise 21, foresee: what " + what + " is refused", x, Edges.IOOBE, () -> x.foresee(1, what));
        }
        for (int hours : new int[] {0, 101}) {
            TavernRumours x = eventful();
            E.refused("Promise 21, foresee: neither hours " + hours + " nor what is right", x, Edges.IAE,
                    () -> x.foresee(hours, 4));
            E.refused("Promise 21, foresee: neither hours " + hours + " nor what 14 is right", x, Edges.IAE,
                    () -> x.foresee(hours, 14));
        }
    }

    private static void foresee() {
        for (int hours : new int[] {1, 2, 5, 71, 99, 100}) {
            for (int what = 5; what <= 13; what++) {
                int one = what;
                E.test("Promise 21, foresee: " + what + " behind so many hours: " + hours, () -> {
                    TavernRumours x = eventful();
                    int foreseen = x.foresee(hours, one);
                    x.pass(hours);
                    E.is("foresee", foreseen, x.count(one));
                });
            }
        }
        E.test("Promise 21, foresee: from this hour on, with all that was ahead", () -> {
            TavernRumours x = hurt(eventful(), 2, 3);
            x.pass(3);
            x.hurt(0, 3);
            E.is("lost in all", x.foresee(1, 13), 1);
            E.is("carried out in all", x.foresee(1, 10), 6);
        });
        E.test("Promise 21, foresee: by worked-out answers behind 1 hour", () -> {
            TavernRumours x = pair("5;rumour s at a on 0;hurt r by 2 when hour=0;");
            int[] due = {1, 1, 1, 1, 1, 1, 9, 1, 0};
            for (int what = 5; what <= 13; what++) {
                E.is("foresee " + what, x.foresee(1, what), due[what - 5]);
            }
        });
        E.test("Promise 21, foresee: lost in all, with those who were lost ahead", () -> {
            TavernRumours x = pair("9;rumour s at a on 0;");
            x.pass(1);
            x.hurt(0, 3);
            x.pass(1);
            E.is("lost", x.foresee(1, 13), 1);
        });
        for (int hour = 1; hour <= 12; hour++) {
            int now = hour;
            E.test("Promise 21, foresee: with travellers on their way, in the hour " + hour, () -> {
                TavernRumours x = wandering(now);
                int[] foreseen = new int[14];
                for (int what = 5; what <= 13; what++) {
                    foreseen[what] = x.foresee(4, what);
                }
                x.pass(4);
                for (int what = 5; what <= 13; what++) {
                    E.is("foresee " + what, foreseen[what], x.count(what));
                }
            });
            E.test("Promise 20, until: with travellers on their way, in the hour " + hour, () -> {
                TavernRumours x = wandering(now);
                for (int s = 0; s < 3; s++) {
                    int until = x.until(s);
                    TavernRumours y = wandering(now);
                    for (int i = 0; i < until; i++) {
                        E.is("not all know it yet", y.rumour(s, 2) < 4 ? 1 : 0, 1);
                        y.pass(1);
                    }
                    E.is("all know it", y.rumour(s, 2), 4);
                }
            });
        }
        E.test("Promise 21, foresee: what was done by hand since the last one counts in orders' tests", () -> {
            TavernRumours x = Edges.land(Edges.LAND + "hurt t by 1 when far a b=9;hurt t by 2 when parted a c;");
            E.is("no wound", x.foresee(1, 12) + x.foresee(1, 10), 0);
            x.hurt(0, 3);
            E.is("far", x.foresee(1, 10), 1);
            x.hurt(2, 3);
            E.is("parted", x.foresee(1, 10), 1);
            x.mend(0);
            E.is("neither", x.foresee(1, 10), 0);
        });
        E.test("Promise 21, foresee: of the list taught last", () -> {
            TavernRumours x = pair("1;rumour s at a on 0;hurt r by 3 when far a b=1;");
            E.is("parts", x.foresee(1, 7), 2);
            Due.teach(x, "tavern a;tavern b;tavern c;");
            E.is("parts then", x.foresee(1, 7), 3);
            E.is("travellers", x.foresee(1, 8), 0);
        });
        E.test("Promise 21, foresee: of an empty land", () -> {
            for (int what = 5; what <= 13; what++) {
                E.is("foresee " + what, new TavernRumours().foresee(100, what), 0);
            }
        });
    }

    /** Four taverns and three rumours; at all times some are on roads of different lengths. */
    private static TavernRumours wandering(int hours) {
        TavernRumours x = Edges.land("tavern a;tavern b;tavern c;tavern d;road p from a to b miles 3;"
                + "road q from b to c miles 5;road r from c to d miles 2;road o from d to a miles 7;"
                + "rumour s at a on 0;rumour t at c on 1;rumour u at d on 4;hurt r by 2 when hour=6;"
                + "hurt o by 3 when hour=9;mend o when hour=11;");
        x.pass(hours);
        return x;
    }

    private static void adviseRange() {
        E.range("Promise 22, advise: rumour", FutureEdgesTest::eventful, Edges.IOOBE, 0, 1, (x, s) -> x.advise(s, 3));
        E.range("Promise 22, advise: rumour of six", FutureEdgesTest::full, Edges.IOOBE, 0, 5, (x, s) -> x.advise(s,
                3));
        E.range("Promise 22, advise: hours", FutureEdgesTest::eventful, Edges.IAE, 1, 60, (x, h) -> x.advise(1, h));
        TavernRumours y = eventful();
        E.refused("Promise 22, advise: neither rumour nor hours 0 are right", y, Edges.IOOBE, () -> y.advise(2, 0));
        E.refused("Promise 22, advise: neither rumour nor hours 61 are right", y, Edges.IOOBE, () -> y.advise(-1, 61));
        E.refused("Promise 22, advise: hours 100 are refused", y, Edges.IAE, () -> y.advise(0, 100));
        TavernRumours known = Edges.land("tavern a;rumour s at a on 0;");
        known.pass(1);
        E.refused("Promise 22, advise: hours 0 are refused, though all know it", known, Edges.IAE,
                () -> known.advise(0, 0));
    }

    private static void advise() {
        String head = "Promise 22, advise: ";
        E.test(head + "of several the smallest number", () -> {
            E.is("advise", Edges.land(Edges.LAND + "rumour l at a on 90;").advise(0, 1), 0);
        });
        E.test(head + "of several the smallest number, not the one where it begins", () -> {
            E.is("advise", Edges.land(Edges.LAND + "rumour l at e on 90;").advise(0, 2), 3);
        });
        E.test(head + "the one by which more taverns know it, though its number is greater", () -> {
            E.is("advise", Edges.land(Edges.LAND + "rumour l at a on 90;").advise(0, 4), 1);
        });
        E.test(head + "the greatest number", () -> {
            E.is("advise",
                    Edges.land("tavern a;tavern b;tavern c;road p from a to c miles 1;road q from b to c miles 1;"
                    + "rumour s at a on 90;").advise(0, 2), 2);
        });
        E.test(head + "none that knows it, but one that does not", () -> {
            TavernRumours x = Edges.land("tavern a;tavern b;rumour s at a on 0;");
            x.pass(1);
            E.is("advise", x.advise(0, 1), 1);
        });
        E.test(head + "the only tavern, if its rumour begins later", () -> {
            E.is("advise", Edges.land("tavern a;rumour s at a on 1;").advise(0, 1), 0);
        });
        E.test(head + "orders are given meanwhile", () -> {
            String list = "tavern a;tavern b;tavern c;tavern d;road p from a to b miles 2;road q from c to d miles 2;"
                    + "rumour s at a on 90;";
            E.is("without orders", Edges.land(list).advise(0, 3), 0);
            E.is("with a broken road", Edges.land(list + "hurt p by 3 when hour=1;").advise(0, 3), 2);
            E.is("with a hush", Edges.land(list + "hush a when hour=0;").advise(0, 3), 1);
        });
    }

    private static void adviseNone() {
        String head = "Promise 22, advise: ";
        E.test(head + "-1 if all know it", () -> {
            TavernRumours x = pair("1;rumour s at a on 0;");
            x.pass(2);
            E.is("advise", x.advise(0, 60), -1);
        });
        E.test(head + "-1 if the only tavern knows it", () -> {
            TavernRumours x = Edges.land("tavern a;rumour s at a on 9;");
            x.tell(0, 0);
            E.is("advise", x.advise(0, 1), -1);
        });
        E.test(head + "-1 if it begins in this hour at the only tavern", () -> {
            E.is("advise", Edges.land("tavern a;rumour s at a on 0;").advise(0, 1), -1);
        });
        E.test(head + "-1 if all will know it by then as well", () -> {
            E.is("advise", pair("4;rumour s at a on 0;").advise(0, 5), -1);
        });
        E.test(head + "not -1 an hour less, when one will not yet", () -> {
            E.is("advise", pair("4;rumour s at a on 0;").advise(0, 4), 1);
        });
        E.test(head + "not one by whom there are as many as without", () -> {
            // a begins now; b hears it by then anyway, c hears it only if it is told
            TavernRumours x = pair("1;tavern c;rumour s at a on 0;");
            E.is("advise", x.advise(0, 2), 2);
        });
    }

    /** Told b at once, c knows it behind one hour more than the road is long; a is alone. */
    private static void adviseHours() {
        String alone = "tavern a;tavern b;tavern c;road r from b to c miles ";
        for (int miles : new int[] {1, 2, 30}) {
            TavernRumours x = Edges.land(alone + miles + ";rumour s at a on 99;");
            E.test("Promise 22, advise: behind as many hours as the road is long, nobody has arrived: " + miles, () -> {
                E.is("advise", x.advise(0, miles), 0);
            });
            E.test("Promise 22, advise: behind an hour more one has arrived: " + (miles + 1), () -> {
                E.is("advise", x.advise(0, miles + 1), 1);
            });
        }
        E.test("Promise 22, advise: behind 60 hours, and not 59", () -> {
            // b is hushed till the hour 29: the first to go out sets out then, and is there in the hour 59
            TavernRumours x = Edges.land(alone + "30;rumour s at a on 99;hush b when hour<29;hush c when hour<29;");
            E.is("behind 59", x.advise(0, 59), 0);
            E.is("behind 60", x.advise(0, 60), 1);
        });
    }

    private static void best() {
        String head = "Promise 23, best: ";
        E.test(head + "-1 of a new object", () -> E.is("best", new TavernRumours().best(), -1));
        E.test(head + "-1 without roads", () -> E.is("best", Edges.land("tavern a;").best(), -1));
        E.test(head + "-1 if none has a wound", () -> E.is("best", eventful().best(), -1));
        E.test(head + "-1 when the last wound is mended", () -> {
            TavernRumours x = hurt(eventful(), 1, 1);
            x.mend(1);
            E.is("best", x.best(), -1);
        });
        E.test(head + "the only wounded one, also if nothing gets better by it", () -> {
            E.is("s, which is not in the net", hurt(eventful(), 2, 1).best(), 2);
        });
        E.test(head + "the first one", () -> E.is("best", hurt(eventful(), 0, 1).best(), 0));
        E.test(head + "the first one, rather than another", () -> E.is("best", hurt(eventful(), 0, 1, 1, 1).best(), 0));
        E.test(head + "the last of fourteen", () -> E.is("best", hurt(full(), 13, 1).best(), 13));
        E.test(head + "a broken one that would be open", () -> {
            E.is("best", hurt(pair("1;tavern c;road q from b to c miles 1;"), 0, 1, 1, 3).best(), 1);
        });
        E.test(head + "fewest parts first, though the net gets longer by it", () -> {
            // with p mended the net is shorter, with q it is longer, but all are in one part
            TavernRumours x = Edges.land("tavern a;tavern b;tavern c;road p from a to b miles 1;"
                    + "road q from b to c miles 30;");
            E.is("best", hurt(x, 0, 2, 1, 3).best(), 1);
        });
        E.test(head + "then the shortest net", () -> {
            // with p or q mended c is joined, over q by fewer miles
            TavernRumours x = Edges.land("tavern a;tavern b;tavern c;road r from a to b miles 1;"
                    + "road p from a to c miles 9;road q from b to c miles 8;");
            E.is("best", hurt(x, 1, 3, 2, 3).best(), 2);
        });
        E.test(head + "a wound less, not all of them", () -> {
            // p mended by one wound is 9 long, and so longer than q; by all of them it would be 5
            TavernRumours x = Edges.land("tavern a;tavern b;tavern c;road p from a to b miles 5;"
                    + "road q from a to b miles 6;road s from b to c miles 1;");
            E.is("best", hurt(x, 0, 3, 2, 1).best(), 2);
        });
        E.test(head + "a broken one with two wounds left is as long as that", () -> {
            TavernRumours x = Edges.land("tavern a;tavern b;tavern c;tavern d;road p from a to b miles 4;"
                    + "road q from c to d miles 3;");
            E.is("p would be 8, q 7", hurt(x, 0, 3, 1, 3).best(), 1);
        });
    }

    private static void bestOfSeveral() {
        String head = "Promise 23, best: of several the smallest number";
        E.test(head, () -> E.is("t or u", hurt(eventful(), 3, 1, 4, 1).best(), 3));
        E.test(head + ", if nothing gets better by any", () -> {
            TavernRumours x = Edges.land("tavern a;tavern b;road p from a to b miles 1;road q from a to b miles 9;"
                    + "road s from a to b miles 9;");
            E.is("q or s", hurt(x, 2, 1, 1, 2).best(), 1);
        });
        E.test(head + ", of those that are the best, not of all wounded ones", () -> {
            TavernRumours x = Edges.land("tavern a;tavern b;tavern c;road n from a to b miles 30;"
                    + "road p from a to b miles 1;road q from b to c miles 1;");
            E.is("p or q, not n", hurt(x, 0, 1, 1, 1, 2, 1).best(), 1);
        });
        E.test(head + ", if two would join the parts as well", () -> {
            E.is("t or u", hurt(eventful(), 4, 3, 3, 3).best(), 3);
        });
    }

    private interface Ask {
        long of(TavernRumours x);
    }

    private static void changesNothing() {
        String[] names = {"Promise 20, until: ", "Promise 21, foresee: ", "Promise 22, advise: ", "Promise 23, best: ",
            "Promise 24, mean: ", "Promise 25, digest: "};
        Ask[] asks = {x -> x.until(0), x -> x.foresee(100, 9), x -> x.advise(1, 60), TavernRumours::best,
            x -> (long) x.mean(), TavernRumours::digest};
        for (int i = 0; i < asks.length; i++) {
            Ask ask = asks[i];
            E.test(names[i] + "nothing is changed, now and in all hours behind it", () -> {
                TavernRumours x = hurt(eventful(), 0, 1, 1, 2);
                TavernRumours same = hurt(eventful(), 0, 1, 1, 2);
                Due.write(x, "tavern");
                Due.write(same, "tavern");
                for (int hour = 0; hour < 12; hour++) {
                    ask.of(x);
                    E.is("digest", x.digest(), same.digest());
                    E.is("pass", x.pass(1), same.pass(1));
                }
                ask.of(x);
                E.is("pass", x.pass(100), same.pass(100));
                E.is("digest then", x.digest(), same.digest());
            });
            E.test(names[i] + "answers the same again", () -> {
                TavernRumours x = hurt(eventful(), 0, 1, 1, 2);
                long first = ask.of(x);
                for (Ask other : asks) {
                    other.of(x);
                }
                E.is("again", ask.of(x), first);
            });
        }
    }

    private static void mean() {
        String head = "Promise 24, mean: ";
        E.test(head + "0 of a new object", () -> E.isDouble("mean", new TavernRumours().mean(), 0.0));
        E.test(head + "0 without roads", () -> E.isDouble("mean", Edges.land("tavern a;").mean(), 0.0));
        E.test(head + "0 without an open road", () -> E.isDouble("mean", hurt(pair("7;"), 0, 3).mean(), 0.0));
        E.test(head + "of one road its length", () -> E.isDouble("mean", hurt(pair("7;"), 0, 2).mean(), 11.0));
        E.test(head + "not cut to a whole number", () -> {
            E.isDouble("mean", pair("1;road p from a to b miles 1;road q from a to b miles 2;").mean(), 4.0 / 3.0);
        });
        E.test(head + "without those that are broken", () -> {
            E.isDouble("mean", hurt(pair("1;road p from a to b miles 2;road q from a to b miles 9;"), 2, 3).mean(),
                    1.5);
        });
        E.test(head + "with those that have two wounds", () -> {
            E.isDouble("mean", hurt(pair("1;road p from a to b miles 2;"), 0, 2).mean(), 3.5);
        });
        E.test(head + "of fourteen roads as long as can be", () -> {
            TavernRumours x = Edges.land("tavern a;tavern b;" + Edges.numbered(14, "road r", " from a to b miles 30;"));
            for (int r = 0; r < 14; r++) {
                x.hurt(r, 2);
            }
            E.isDouble("mean", x.mean(), 34.0);
        });
    }

    /** The checksum by numbers of any size, cut to 64 bits at the end alone. */
    private static long digestOf(TavernRumours x) {
        Sum sum = new Sum();
        for (int what = 0; what < 15; what++) {
            sum.add(x.count(what));
        }
        for (int t = 0; t < x.count(1); t++) {
            for (int what = 0; what < 4; what++) {
                sum.add(x.tavern(t, what));
            }
            for (int s = 0; s < x.count(3); s++) {
                sum.add(x.since(t, s));
            }
        }
        for (int r = 0; r < x.count(2); r++) {
            for (int what = 0; what < 9; what++) {
                sum.add(x.road(r, what));
            }
            sum.add(x.detour(r));
            sum.add(x.replace(r));
        }
        for (int s = 0; s < x.count(3); s++) {
            for (int what = 0; what < 4; what++) {
                sum.add(x.rumour(s, what));
            }
        }
        return sum.d.longValue();
    }

    private static final class Sum {
        private BigInteger d = BigInteger.valueOf(1697);

        void add(int x) {
            d = d.multiply(BigInteger.valueOf(31)).add(BigInteger.valueOf(x));
        }
    }

    private static void digest() {
        String head = "Promise 25, digest: ";
        E.test(head + "of a new object, which wraps around already", () -> {
            BigInteger due = BigInteger.valueOf(1697).multiply(BigInteger.valueOf(31).pow(15));
            E.is("more than 64 bits", due.bitLength() > 64 ? 1 : 0, 1);
            E.is("digest", new TavernRumours().digest(), due.longValue());
        });
        E.test(head + "of a land at first", () -> E.is("digest", eventful().digest(), digestOf(eventful())));
        E.test(head + "with -1 for what is not known, no detour, no road in the place", () -> {
            TavernRumours x = hurt(pair("1;rumour s at a on 9;"), 0, 1);
            E.is("since, detour, replace", x.since(0, 0) + x.detour(0) + x.replace(0), -3);
            E.is("digest", x.digest(), digestOf(x));
        });
        E.test(head + "with a tape that is not empty", () -> {
            TavernRumours x = eventful();
            Due.write(x, "tavern");
            E.is("digest", x.digest(), digestOf(x));
        });
        E.test(head + "of taverns alone", () -> {
            TavernRumours x = Edges.land(Edges.numbered(10, "tavern t", ";"));
            E.is("digest", x.digest(), digestOf(x));
        });
        E.test(head + "of as many taverns, roads and rumours as there may be", () -> {
            TavernRumours x = full();
            x.tell(0, 3);
            x.hurt(7, 3);
            x.hurt(3, 1);
            for (int i = 0; i < 4; i++) {
                x.pass(1);
                E.is("digest", x.digest(), digestOf(x));
            }
        });
        E.test(head + "in all hours of a land in which much happens", () -> {
            TavernRumours x = eventful();
            for (int hour = 0; hour < 10; hour++) {
                x.pass(1);
                E.is("digest", x.digest(), digestOf(x));
            }
        });
    }
}
