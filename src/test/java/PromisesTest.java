import java.util.function.LongSupplier;

/** Each promise with answers worked out by hand: ordinary ones, the edges that it names, wrong inputs. */
public final class PromisesTest {

    private static final String LAND = Edges.LAND;
    private static final String PAIR = Edges.PAIR;

    private final Due due = new Due();

    public static void main(String[] args) {
        PromisesTest test = new PromisesTest();
        test.aNewObject();
        test.feeding();
        test.trimming();
        test.teaching();
        test.tokens();
        test.grammar();
        test.depth();
        test.limitsOfLists();
        test.cutTokens();
        test.fullTapes();
        test.otherNames();
        test.errorsOfNames();
        test.errorPlaces();
        test.counts();
        test.taverns();
        test.roads();
        test.rumours();
        test.hearing();
        test.waysFar();
        test.steps();
        test.detours();
        test.replacing();
        test.hurting();
        test.mending();
        test.telling();
        test.milesByHand();
        test.hours();
        test.orders();
        test.hushing();
        test.reckoning();
        test.travellers();
        test.waiting();
        test.foreseeing();
        test.advising();
        test.bestMending();
        test.meanLength();
        test.digests();
        test.due.end("PromisesTest");
    }

    private void is(String call, LongSupplier answer, long want) {
        due.is(call, answer, want);
    }

    private void isError(String list, int error, int place) {
        TavernRumours x = new TavernRumours();
        is("teach " + list, () -> Due.teach(x, list), error);
        is("errorAt " + list, x::errorAt, place);
        is("tape behind " + list, () -> x.count(14), 0);
    }

    private static String times(int n, String text) {
        return text.repeat(n);
    }

    // ---- 1
    private void aNewObject() {
        TavernRumours x = new TavernRumours();
        for (int what = 0; what < 15; what++) {
            int one = what;
            is("new count " + what, () -> x.count(one), 0);
        }
        is("new errorAt", x::errorAt, -1);
        due.throwsIt("new tavern", () -> x.tavern(0, 0), Edges.IOOBE);
        due.throwsIt("new road", () -> x.road(0, 0), Edges.IOOBE);
        due.throwsIt("new rumour", () -> x.rumour(0, 0), Edges.IOOBE);
        is("new pass", () -> x.pass(3), 0);
        is("new best", x::best, -1);
        long d = 1697;
        for (int what = 0; what < 15; what++) {
            d = d * 31 + (what == 0 ? 3 : 0);
        }
        is("new digest", x::digest, d);
    }

    // ---- 2
    private void feeding() {
        TavernRumours x = new TavernRumours();
        for (int i = 1; i <= 100; i++) {
            int length = 20 * i;
            is("feed " + i, () -> x.feed(0x20202020, 0x0a202020, 0x20202020, 0x20202020, 0x20202020), length);
        }
        due.throwsIt("feed beyond 2000", () -> x.feed(0, 0, 0, 0, 0), Edges.ISE);
        is("tape stays", () -> x.count(14), 2000);
        is("trim to 1981", () -> x.trim(1981), 1981);
        due.throwsIt("feed to 2001", () -> x.feed(0, 0, 0, 0, 0), Edges.ISE);
        is("trim to 1980", () -> x.trim(1980), 1980);
        is("feed to 2000", () -> x.feed(0x20202020, 0x20202020, 0x20202020, 0x20202020, 0x20202020), 2000);
        is("blanks are an empty list", x::teach, 0);
        TavernRumours y = new TavernRumours();
        // "tavern a;tavern bcd;" with the highest byte of each number first
        is("feed", () -> y.feed(0x74617665, 0x726e2061, 0x3b746176, 0x65726e20, 0x6263643b), 20);
        is("teach it", y::teach, 0);
        is("taverns", () -> y.count(1), 2);
        is("bytes over 127", () -> y.feed(0xe9e9e9e9, -1, 0x80808080, 0, 0), 20);
        is("are no tokens", y::teach, 1);
        is("at the first", y::errorAt, 0);
    }

    // ---- 3
    private void trimming() {
        TavernRumours x = new TavernRumours();
        is("trim nothing", () -> x.trim(0), 0);
        due.throwsIt("trim 1 of 0", () -> x.trim(1), Edges.IAE);
        Due.write(x, "tavern a;tavern b;xx");
        due.throwsIt("trim -1", () -> x.trim(-1), Edges.IAE);
        due.throwsIt("trim 21", () -> x.trim(21), Edges.IAE);
        due.throwsIt("trim least", () -> x.trim(Integer.MIN_VALUE), Edges.IAE);
        is("trim 20", () -> x.trim(20), 20);
        is("trim 18", () -> x.trim(18), 18);
        due.throwsIt("trim 19", () -> x.trim(19), Edges.IAE);
        is("tape", () -> x.count(14), 18);
        is("teach", x::teach, 0);
        is("taverns", () -> x.count(1), 2);
    }

    // ---- 4
    private void teaching() {
        TavernRumours x = Edges.land(PAIR + "1;rumour s at a on 2;rumour o at b on 4;hurt r by 3 when hour=4;");
        x.pass(3);
        is("walks", () -> x.count(8), 1);
        x.pass(2);
        is("carried out", () -> x.count(10), 1);
        is("a wrong list", () -> Due.teach(x, "tavern a"), 1);
        is("all stays", () -> x.count(3), 2);
        is("so do wounds", () -> x.road(0, 3), 3);
        is("and who knows", () -> x.since(0, 0), 2);
        is("the tape is empty", () -> x.count(14), 0);
        is("the same again", () -> Due.teach(x, PAIR + "1;rumour s at a on 4;rumour o at b on 5;"), 0);
        is("the hour stays", () -> x.count(0), 5);
        is("no orders carried out", () -> x.count(10), 0);
        is("none lost", () -> x.count(13), 0);
        is("no wounds", () -> x.road(0, 3), 0);
        is("nobody knows", () -> x.count(9), 0);
        is("nobody walks", () -> x.count(8), 0);
        is("ahead of it: never", () -> x.pass(10), 2);
        is("not this", () -> x.rumour(0, 2), 0);
        is("this one", () -> x.since(1, 1), 5);
        is("an empty tape", x::teach, 0);
        is("nothing left", () -> x.count(1) + x.count(2) + x.count(3) + x.count(4), 0);
        is("but the hour", () -> x.count(0), 15);
        TavernRumours y = Edges.land(PAIR + "9;rumour s at a on 0;");
        y.pass(2);
        is("lost in all", () -> y.hurt(0, 3) + y.pass(1) + y.count(13), 4);
        is("taught anew", () -> Due.teach(y, PAIR + "9;rumour s at a on 0;"), 0);
        is("lost none", () -> y.count(13), 0);
        is("names anew", () -> Due.teach(y, "tavern b;tavern a;"), 0);
        is("names are gone", () -> Due.teach(y, "road r from a to b miles 1;"), 3);
    }

    // ---- 4: tokens
    private void tokens() {
        isError("", 0, -1);
        isError(" \n ", 0, -1);
        isError("\n tavern\na\n;", 0, -1);
        isError("tavern a;tavern\tb;", 1, 15);
        isError("tavern a;\r", 1, 9);
        isError("tavern A;", 1, 7);
        isError("tavern a#;", 1, 8);
        isError("tavern abcdefghij;", 0, -1);
        isError("tavern abcdefghijk;", 1, 7);
        isError("tavern a234567890;", 0, -1);
        isError("tavern a2345678901;", 1, 7);
        isError("tavern 7up;", 1, 7);
        isError("taverna;", 1, 0);
        isError("tavern road;", 1, 7);
        isError("tavern min;", 1, 7);
        isError("tavern roads;tavern minx;tavern i;tavern tavern1;", 0, -1);
        isError(PAIR + "000030;", 0, -1);
        isError(PAIR + "0000030;", 1, 43);
        isError(PAIR + "5rumour;", 1, 44);
        isError(PAIR + "5;hurt r by 1when 1<2and 2<=3or 3>1;", 0, -1);
        isError(PAIR + "5;hurt r by 1 when 1< =2;", 1, 65);
        isError(PAIR + "5;hurt r by 1 when 1=<2;", 1, 64);
        isError(PAIR + "5;hurt r by 1 when 1>=2;hurt r by 999999 when 1=1;", 0, -1);
    }

    // ---- 4: the grammar
    private void grammar() {
        String pair = PAIR + "5;rumour s at a on 0;";
        int at = pair.length();
        String[] right = {"mend r when open r;", "mend r when knows a s;", "mend r when parted b a;",
            "hush a when not open r;", "hush a when not not [open r or not open r] and 1=1 or 2>1;",
            "hurt r by -1 when 1--1>=2;", "hurt r by min(1,max(2,3))*far a b when hour<length r+wounds r/heard s;",
            "hurt r by (1) when [[(1)=1]];", "hush b when - - 1>-2;"};
        for (String line : right) {
            isError(pair + line, 0, -1);
        }
        Object[][] wrong = {{"mend r by 1 when open r;", 7}, {"hurt r when open r;", 7}, {"hush a;", 6},
            {"hush a when ;", 12}, {"hush a when 1;", 13}, {"hush a when (open r);", 13}, {"hush a when [1=1;", 16},
            {"hush a when 1=1=1;", 15}, {"hush a when 1<2<3;", 15}, {"hush a when open a a;", 19},
            {"hush a when knows a;", 19}, {"hush a when knows a s s;", 22}, {"hush a when hour a=1;", 17},
            {"hush a when min(1)=1;", 17}, {"hush a when min 1,2=1;", 16}, {"hush a when max(1,2,3)=1;", 19},
            {"hush a when 1+=1;", 14}, {"hush a when +1=1;", 12}, {"hush a when not 1;", 17},
            {"hush a when 1=1 or;", 18}, {"hush a when a=1;", 12}, {"hush a when 1=1", 15}, {";", 0}, {"a;", 0},
            {"hush a when 1=not 1;", 14}, {"hush a when 1=[1];", 14}, {"hush a when 1=1 and or 1=1;", 20},
            {"tavern c d;", 9}, {"road x a to b miles 1;", 7}, {"rumour o at a on b;", 17}, {"hush 1 when 1=1;", 5},
            {"rumour o at a on -1;", 17}, {"hush a when (1=1);", 14}, {"hush a when 1=1 or [1=1]];", 24}};
        for (Object[] line : wrong) {
            isError(pair + line[0], 1, at + (Integer) line[1]);
        }
        isError("hush a when 1=1", 1, 15);
        isError("hush a when 1=1  ", 1, 17);
    }

    private void depth() {
        String hush = "tavern a;hush a when ";
        int at = hush.length();
        isError(hush + times(8, "(") + "1" + times(8, ")") + "=1;", 0, -1);
        isError(hush + times(9, "(") + "1" + times(9, ")") + "=1;", 1, at + 8);
        isError(hush + times(8, "[") + "1=1" + times(8, "]") + ";", 0, -1);
        isError(hush + times(9, "[") + "1=1" + times(9, "]") + ";", 1, at + 8);
        isError(hush + times(8, "-") + "1=1;", 0, -1);
        isError(hush + times(9, "-") + "1=1;", 1, at + 8);
        isError(hush + times(8, "not ") + "1=1;", 0, -1);
        isError(hush + times(9, "not ") + "1=1;", 1, at + 32);
        isError(PAIR + "1;hurt r by " + times(8, "(") + "1" + times(8, ")") + " when 1=1;", 0, -1);
        isError(PAIR + "1;hurt r by " + times(9, "(") + "1" + times(9, ")") + " when 1=1;", 1, 63);
        isError(hush + times(4, "not [") + "1=1" + times(4, "]") + ";", 0, -1);
        isError(hush + times(4, "not [") + "-1=1" + times(4, "]") + ";", 1, at + 20);
        isError(hush + times(7, "-") + "1=-" + times(7, "-") + "1;", 0, -1);
        isError(hush + times(8, "min(1,") + "2" + times(8, ")") + "=1;", 0, -1);
        isError(hush + times(9, "min(1,") + "2" + times(9, ")") + "=1;", 1, at + 8 * 6 + 3);
        isError(hush + times(7, "(") + "max(1,(2))" + times(7, ")") + "=1;", 1, at + 13);
        isError(hush + "not " + times(7, "(") + "1" + times(7, ")") + "=1 and " + times(8, "(") + "1" + times(8, ")")
                + "=1;", 0, -1);
        isError(hush + "not " + times(8, "(") + "1" + times(8, ")") + "=1;", 1, at + 11);
        isError(hush + "1-" + times(8, "-") + "1=1 or " + times(8, "-") + "1-" + times(8, "-") + "1=1;", 0, -1);
    }

    private void limitsOfLists() {
        // with n pluses these are 10 + 2n tokens
        String sum = "tavern a;hush a when 0";
        String full = sum + times(195, "+0") + "=0;";
        isError(full, 0, -1);
        isError(full + " \n", 0, -1);
        isError(full + ";", 1, full.length());
        isError(full + "tavern b;", 1, full.length());
        isError(sum + times(196, "+0") + "=0;", 1, sum.length() + 2 * 196 + 1);
        isError(times(1999, " ") + "x", 1, 1999);
        isError(times(399, "a "), 1, 0);
    }

    /** What trim() cut off is still in memory, but no longer on the tape. */
    private void cutTokens() {
        String[] ahead = {"tavern a;hush a when 1<", "tavern a;hush a when 1=1", "tavern abc",
                "tavern a;rumour s at a on 9"};
        String[] cut = {"=2;", "00;", "de;", "9;"};
        for (int i = 0; i < 4; i++) {
            TavernRumours x = new TavernRumours();
            String text = ahead[i];
            Due.write(x, text + cut[i]);
            x.trim(text.length());
            is("teach " + text, x::teach, 1);
            is("errorAt " + text, x::errorAt, text.length());
            is("the rest", () -> Due.teach(x, "tavern q;"), 0);
        }
    }

    private void fullTapes() {
        for (String end : new String[] {"a", "1", "<", ">", "=", "-", "(", ";", "tavern", "hush", "\n"}) {
            String text = times(2000 - end.length(), " ") + end;
            boolean begins = end.equals("tavern") || end.equals("hush");
            isError(text, end.equals("\n") ? 0 : 1, end.equals("\n") ? -1 : begins ? 2000 : text.indexOf(end.trim()));
        }
        String list = "tavern a;" + times(1991 - 21, " ") + "hush a when 1<2and 1<";
        isError(list, 1, 2000);
        isError("tavern a;" + times(1991 - 9, " ") + "tavern b;", 0, -1);
    }

    /** Names are the same only if all their signs are. */
    private void otherNames() {
        String signs = "abcdefghijklmnopqrstuvwxyz0123456789";
        for (int i = 0; i < signs.length(); i++) {
            for (int j = 0; j < signs.length(); j++) {
                String list = "tavern q" + signs.charAt(i) + ";tavern q" + signs.charAt(j) + ";";
                isError(list, i == j ? 2 : 0, i == j ? 17 : -1);
            }
            String longer = "tavern q;tavern q" + signs.charAt(i) + ";tavern q" + signs.charAt(i) + "0;";
            isError(longer, 0, -1);
        }
        isError("tavern zzzzzzzzzz;tavern yzzzzzzzzz;tavern zzzzzzzzzy;tavern zzzz9zzzzz;tavern z999999999;", 0, -1);
    }

    private void errorsOfNames() {
        isError("tavern a;tavern b;tavern a;", 2, 25);
        isError("tavern a;tavern b;road a from a to b miles 1;rumour a at a on 0;", 0, -1);
        isError(PAIR + "1;road r from a to b miles 1;", 2, 50);
        isError("tavern a;rumour s at a on 0;rumour s at a on 0;", 2, 35);
        isError("tavern a;road r from a to a miles 1;", 3, 26);
        isError("tavern a;road r from b to b miles 1;", 3, 21);
        isError("road r from a to b miles 1;tavern a;tavern b;", 3, 12);
        isError("tavern a;rumour s at s on 0;", 3, 21);
        String all = PAIR + "1;rumour s at a on 0;";
        int at = all.length();
        isError(all + "hurt a by 1 when 1=1;", 3, at + 5);
        isError(all + "mend s when 1=1;", 3, at + 5);
        isError(all + "hush r when 1=1;", 3, at + 5);
        isError(all + "hush a when open a;", 3, at + 17);
        isError(all + "hush a when length s=1;", 3, at + 19);
        isError(all + "hush a when wounds a=1;", 3, at + 19);
        isError(all + "hush a when heard r=1;", 3, at + 18);
        isError(all + "hush a when knows s s;", 3, at + 18);
        isError(all + "hush a when knows a a;", 3, at + 20);
        isError(all + "hush a when parted r a;", 3, at + 19);
        isError(all + "hush a when parted a s;", 3, at + 21);
        isError(all + "hush a when far s a=1;", 3, at + 16);
        isError(all + "hush a when far a r=1;", 3, at + 18);
        isError(all + "hurt r by heard x when length y=1;", 3, at + 16);
        isError(PAIR + "0;", 5, 43);
        isError(PAIR + "31;", 5, 43);
        isError(PAIR + "1;", 0, -1);
        isError(PAIR + "30;", 0, -1);
        isError("tavern a;rumour s at a on 100;", 5, 26);
        isError("tavern a;rumour s at a on 99;", 0, -1);
        isError("tavern a;rumour s at a on 0;", 0, -1);
        String taverns = Edges.numbered(10, "tavern t", ";");
        isError(taverns, 0, -1);
        isError(taverns + "tavern x;", 4, taverns.length() + 7);
        isError(taverns + "tavern t3;", 2, taverns.length() + 7);
        String roads = "tavern a;tavern b;" + Edges.numbered(14, "road r", " from a to b miles 1;");
        isError(roads, 0, -1);
        isError(roads + "road x from c to b miles 1;", 4, roads.length() + 5);
        isError(roads + "road r13 from c to b miles 1;", 2, roads.length() + 5);
        String rumours = "tavern a;" + Edges.numbered(6, "rumour s", " at a on 0;");
        isError(rumours, 0, -1);
        isError(rumours + "rumour x at b on 0;", 4, rumours.length() + 7);
        isError(rumours + "rumour s0 at b on 0;", 2, rumours.length() + 7);
        String orders = PAIR + "1;" + times(10, "hush a when 1=1;mend r when 1=1;");
        isError(orders, 0, -1);
        isError(orders + "mend r when 1=1;", 4, orders.length());
        isError(orders + "hush x when 1=1;", 4, orders.length());
        isError(orders + "hurt r by 1 when 1=1;", 4, orders.length());
    }

    // ---- 5
    private void errorPlaces() {
        TavernRumours x = new TavernRumours();
        is("none yet", x::errorAt, -1);
        is("error", () -> Due.teach(x, "tavern a;tavern a;"), 2);
        is("its place", x::errorAt, 16);
        is("the place stays", () -> x.pass(1) + x.errorAt(), 16);
        is("error 1 goes ahead of those to its left", () -> Due.teach(x, "tavern a;tavern a;x"), 1);
        is("its place", x::errorAt, 18);
        is("the leftmost", () -> Due.teach(x, "tavern a;rumour s at b on 100;tavern a;"), 3);
        is("its place", x::errorAt, 21);
        is("no error", () -> Due.teach(x, "tavern a;"), 0);
        is("no place", x::errorAt, -1);
    }

    // ---- 6
    private void counts() {
        TavernRumours x = Edges.land(LAND
                + "rumour l at a on 0;rumour m at d on 1;hush e when 1=2;hurt p by 1 when hour=3;");
        int[] start = {0, 5, 5, 2, 2, 5, 0, 2, 0, 0, 0, 2 + 3 + 1, 0, 0, 0};
        for (int what = 0; what < 15; what++) {
            int one = what;
            is("count " + what, () -> x.count(one), start[one]);
        }
        due.throwsIt("count -1", () -> x.count(-1), Edges.IOOBE);
        due.throwsIt("count 15", () -> x.count(15), Edges.IOOBE);
        // a hears l in 0 and sends 2; b hears it in 2 and sends 2 more; c in 5; d hears m in 1, sends 2; e in 2, sends 2
        is("pass 4", () -> x.pass(4), 4);
        x.hurt(2, 3);
        x.hurt(4, 3);
        int[] then = {4, 5, 5, 2, 2, 3, 3, 2, 3, 4, 1, 4 + 3 + 1, 1, 0, 0};
        for (int what = 0; what < 15; what++) {
            int one = what;
            is("count then " + what, () -> x.count(one), then[one]);
        }
        is("pass 1", () -> x.pass(1), 0);
        is("one is lost on s", () -> x.count(13), 1);
        Due.write(x, "tavern");
        is("bytes", () -> x.count(14), 6);
    }

    // ---- 7
    private void taverns() {
        TavernRumours x = Edges.land(LAND + "rumour l at e on 0;rumour m at e on 0;");
        int[][] start = {{2, 0, 0, 5}, {2, 0, 0, 3}, {2, 0, 0, 5}, {2, 0, 3, 1}, {2, 0, 3, 1}};
        for (int t = 0; t < 5; t++) {
            for (int what = 0; what < 4; what++) {
                int tavern = t;
                int one = what;
                is("tavern " + t + " " + what, () -> x.tavern(tavern, one), start[tavern][one]);
            }
        }
        x.pass(1);
        is("knows both", () -> x.tavern(4, 1), 2);
        x.hurt(0, 3);
        x.hurt(2, 3);
        is("alone", () -> x.tavern(0, 3), 0);
        is("no road", () -> x.tavern(0, 0), 0);
        is("own part", () -> x.tavern(0, 2), 0);
        is("part of b", () -> x.tavern(1, 2), 1);
        is("part of c", () -> x.tavern(2, 2), 1);
        due.throwsIt("tavern -1", () -> x.tavern(-1, 0), Edges.IOOBE);
        due.throwsIt("tavern 5", () -> x.tavern(5, 0), Edges.IOOBE);
        due.throwsIt("what -1", () -> x.tavern(0, -1), Edges.IOOBE);
        due.throwsIt("what 4", () -> x.tavern(0, 4), Edges.IOOBE);
    }

    // ---- 8
    private void roads() {
        TavernRumours x = Edges.land(LAND + "rumour l at d on 0;");
        int[][] start = {{0, 1, 2, 0, 2, 1, 0, 1, 0}, {1, 2, 3, 0, 3, 1, 0, 1, 0}, {0, 2, 6, 0, 6, 1, 0, 0, 0},
            {3, 4, 1, 0, 1, 1, 0, 1, 0}, {4, 3, 1, 0, 1, 1, 0, 0, 0}};
        for (int r = 0; r < 5; r++) {
            for (int what = 0; what < 9; what++) {
                int road = r;
                int one = what;
                is("road " + r + " " + what, () -> x.road(road, one), start[road][one]);
            }
        }
        x.pass(1);
        x.hurt(3, 1);
        is("length", () -> x.road(3, 4), 3);
        is("t is no longer in the net", () -> x.road(3, 7), 0);
        is("u is", () -> x.road(4, 7), 1);
        is("on t", () -> x.road(3, 8), 1);
        x.hurt(4, 3);
        is("length of a broken one", () -> x.road(4, 4), 7);
        is("not open", () -> x.road(4, 5), 0);
        is("not in the net", () -> x.road(4, 7), 0);
        is("no span", () -> x.road(4, 6), 0);
        is("t is a span", () -> x.road(3, 6), 1);
        is("still on it", () -> x.road(4, 8), 1);
        due.throwsIt("road -1", () -> x.road(-1, 0), Edges.IOOBE);
        due.throwsIt("road 5", () -> x.road(5, 0), Edges.IOOBE);
        due.throwsIt("what -1", () -> x.road(0, -1), Edges.IOOBE);
        due.throwsIt("what 9", () -> x.road(0, 9), Edges.IOOBE);
    }

    // ---- 9
    private void rumours() {
        TavernRumours x = Edges.land(LAND + "rumour l at d on 7;rumour m at a on 1;");
        x.pass(4);
        int[][] then = {{3, 7, 0, 0}, {0, 1, 2, 3}};
        for (int s = 0; s < 2; s++) {
            for (int what = 0; what < 4; what++) {
                int rumour = s;
                int one = what;
                is("rumour " + s + " " + what, () -> x.rumour(rumour, one), then[rumour][one]);
            }
        }
        due.throwsIt("rumour -1", () -> x.rumour(-1, 0), Edges.IOOBE);
        due.throwsIt("rumour 2", () -> x.rumour(2, 0), Edges.IOOBE);
        due.throwsIt("what -1", () -> x.rumour(0, -1), Edges.IOOBE);
        due.throwsIt("what 4", () -> x.rumour(0, 4), Edges.IOOBE);
    }

    // ---- 10
    private void hearing() {
        TavernRumours x = Edges.land(LAND + "rumour l at a on 1;rumour m at e on 2;");
        x.pass(10);
        int[][] since = {{1, -1}, {3, -1}, {6, -1}, {-1, 3}, {-1, 2}};
        for (int t = 0; t < 5; t++) {
            for (int s = 0; s < 2; s++) {
                int tavern = t;
                int rumour = s;
                is("since " + t + " " + s, () -> x.since(tavern, rumour), since[tavern][rumour]);
            }
        }
        due.throwsIt("tavern -1", () -> x.since(-1, 0), Edges.IOOBE);
        due.throwsIt("tavern 5", () -> x.since(5, 0), Edges.IOOBE);
        due.throwsIt("rumour -1", () -> x.since(0, -1), Edges.IOOBE);
        due.throwsIt("rumour 2", () -> x.since(0, 2), Edges.IOOBE);
    }

    // ---- 11
    private void waysFar() {
        TavernRumours x = Edges.land(LAND);
        is("itself", () -> x.far(0, 0), 0);
        is("over b", () -> x.far(0, 2), 5);
        is("back", () -> x.far(2, 0), 5);
        is("no way", () -> x.far(0, 3), -1);
        x.hurt(1, 1);
        is("the road s is shorter", () -> x.far(0, 2), 6);
        x.hurt(2, 3);
        is("broken", () -> x.far(0, 2), 7);
        x.hurt(0, 3);
        is("parted", () -> x.far(0, 2), -1);
        due.throwsIt("far -1", () -> x.far(-1, 0), Edges.IOOBE);
        due.throwsIt("far to -1", () -> x.far(0, -1), Edges.IOOBE);
        due.throwsIt("far 5", () -> x.far(5, 0), Edges.IOOBE);
        due.throwsIt("far to 5", () -> x.far(0, 5), Edges.IOOBE);
        due.throwsIt("far itself of none", () -> x.far(5, 5), Edges.IOOBE);
    }

    // ---- 12
    private void steps() {
        TavernRumours x = Edges.land("tavern a;tavern b;tavern c;tavern d;tavern e;road w from a to d miles 1;"
                + "road v from d to c miles 3;road u from b to a miles 2;road t from b to c miles 2;"
                + "road s from a to c miles 4;");
        is("of three as long ways", () -> x.step(0, 2), 1);
        is("back", () -> x.step(2, 0), 0);
        is("beside", () -> x.step(0, 3), 3);
        is("over a", () -> x.step(1, 3), 0);
        is("itself", () -> x.step(4, 4), 4);
        is("no way", () -> x.step(0, 4), -1);
        x.hurt(3, 1);
        is("without b", () -> x.step(0, 2), 2);
        x.hurt(4, 3);
        is("by d", () -> x.step(0, 2), 3);
        due.throwsIt("step -1", () -> x.step(-1, 0), Edges.IOOBE);
        due.throwsIt("step to -1", () -> x.step(0, -1), Edges.IOOBE);
        due.throwsIt("step 5", () -> x.step(5, 0), Edges.IOOBE);
        due.throwsIt("step to 5", () -> x.step(0, 5), Edges.IOOBE);
    }

    // ---- 13
    private void detours() {
        TavernRumours x = Edges.land(LAND + "tavern f;road v from f to a miles 1;");
        int[] ways = {9, 8, 5, 1, 1, -1};
        for (int r = 0; r < 6; r++) {
            int road = r;
            is("detour " + r, () -> x.detour(road), ways[road]);
        }
        x.hurt(2, 3);
        is("of a broken road", () -> x.detour(2), 5);
        is("over a broken road", () -> x.detour(0), -1);
        due.throwsIt("detour -1", () -> x.detour(-1), Edges.IOOBE);
        due.throwsIt("detour 6", () -> x.detour(6), Edges.IOOBE);
    }

    // ---- 14
    private void replacing() {
        TavernRumours x = Edges.land(LAND + "tavern f;road v from f to a miles 1;road w from c to a miles 6;");
        int[] roads = {2, 2, -1, 4, -1, -1, -1};
        for (int r = 0; r < 7; r++) {
            int road = r;
            is("replace " + r, () -> x.replace(road), roads[road]);
        }
        x.hurt(2, 1);
        is("the shorter one", () -> x.replace(0), 6);
        x.hurt(0, 3);
        is("not in the net", () -> x.replace(0), -1);
        is("one that is in it now", () -> x.replace(6), 2);
        due.throwsIt("replace -1", () -> x.replace(-1), Edges.IOOBE);
        due.throwsIt("replace 7", () -> x.replace(7), Edges.IOOBE);
    }

    // ---- 15
    private void hurting() {
        TavernRumours x = Edges.land(LAND);
        is("by 1", () -> x.hurt(0, 1), 1);
        is("by 1 more", () -> x.hurt(0, 1), 2);
        is("open", () -> x.road(0, 5), 1);
        is("by 2 more", () -> x.hurt(0, 2), 3);
        is("again", () -> x.hurt(0, 3), 3);
        is("no order", () -> x.count(10), 0);
        due.throwsIt("by 0", () -> x.hurt(1, 0), Edges.IAE);
        due.throwsIt("by 4", () -> x.hurt(1, 4), Edges.IAE);
        due.throwsIt("by -1", () -> x.hurt(1, -1), Edges.IAE);
        due.throwsIt("road -1", () -> x.hurt(-1, 1), Edges.IOOBE);
        due.throwsIt("road 5 by 0", () -> x.hurt(5, 0), Edges.IOOBE);
        is("nothing changed", () -> x.road(1, 3), 0);
    }

    // ---- 16
    private void mending() {
        TavernRumours x = Edges.land(LAND);
        x.hurt(0, 3);
        is("mend", () -> x.mend(0), 2);
        is("open again", () -> x.road(0, 5), 1);
        is("mend more", () -> x.mend(0), 1);
        is("and more", () -> x.mend(0), 0);
        due.throwsIt("no wound", () -> x.mend(0), Edges.ISE);
        is("still none", () -> x.road(0, 3), 0);
        due.throwsIt("road -1", () -> x.mend(-1), Edges.IOOBE);
        due.throwsIt("road 5", () -> x.mend(5), Edges.IOOBE);
    }

    // ---- 17
    private void telling() {
        TavernRumours x = Edges.land(LAND + "rumour l at a on 9;");
        x.pass(2);
        is("one that has not begun", () -> x.tell(1, 0), 1);
        is("in this hour", () -> x.since(1, 0), 2);
        due.throwsIt("twice", () -> x.tell(1, 0), Edges.ISE);
        is("nobody walks yet", () -> x.count(8), 0);
        is("another one", () -> x.tell(3, 0), 2);
        is("they walk", () -> x.pass(1) + x.count(8), 4);
        is("heard", () -> x.pass(2), 2);
        is("a", () -> x.since(0, 0), 4);
        is("e", () -> x.since(4, 0), 3);
        is("c", () -> x.pass(10), 1);
        is("it begins at a for nothing", () -> x.since(0, 0), 4);
        due.throwsIt("tavern -1", () -> x.tell(-1, 0), Edges.IOOBE);
        due.throwsIt("tavern 5", () -> x.tell(5, 0), Edges.IOOBE);
        due.throwsIt("rumour -1", () -> x.tell(0, -1), Edges.IOOBE);
        due.throwsIt("rumour 1", () -> x.tell(0, 1), Edges.IOOBE);
    }

    // ---- 18
    private void milesByHand() {
        TavernRumours x = Edges.land(LAND + "rumour l at a on 0;");
        is("before", () -> x.setMiles(0, 30), 2);
        is("before again", () -> x.setMiles(0, 1), 30);
        is("now", () -> x.road(0, 2), 1);
        is("far", () -> x.far(0, 2), 4);
        due.throwsIt("0 miles", () -> x.setMiles(0, 0), Edges.IAE);
        due.throwsIt("31 miles", () -> x.setMiles(0, 31), Edges.IAE);
        due.throwsIt("road -1", () -> x.setMiles(-1, 1), Edges.IOOBE);
        due.throwsIt("road 5 and 0 miles", () -> x.setMiles(5, 0), Edges.IOOBE);
        x.setMiles(2, 30);
        x.setMiles(1, 30);
        x.pass(5);
        is("on s", () -> x.road(2, 8), 1);
        is("shorter than gone", () -> x.setMiles(2, 3), 30);
        is("arrives", () -> x.pass(1), 1);
        is("c heard it", () -> x.since(2, 0), 5);
    }

    // ---- 19
    private void hours() {
        TavernRumours x = Edges.land(PAIR + "3;rumour s at a on 2;");
        due.throwsIt("0 hours", () -> x.pass(0), Edges.IAE);
        due.throwsIt("101 hours", () -> x.pass(101), Edges.IAE);
        due.throwsIt("-1 hours", () -> x.pass(-1), Edges.IAE);
        is("the hour", () -> x.count(0), 0);
        is("nothing yet", () -> x.pass(2), 0);
        is("it begins", () -> x.pass(1), 1);
        is("since", () -> x.since(0, 0), 2);
        is("one walks, no mile yet", () -> x.count(8), 1);
        is("two miles", () -> x.pass(2), 0);
        is("the third", () -> x.pass(1), 1);
        is("b knows since", () -> x.since(1, 0), 5);
        is("one walks back by the same road", () -> x.road(0, 8), 1);
        is("it changes nothing", () -> x.pass(100), 0);
        is("nobody walks", () -> x.count(8), 0);
        is("the hour then", () -> x.count(0), 106);
        is("a stays", () -> x.since(0, 0), 2);
    }

    private void orders() {
        TavernRumours x = Edges.land(PAIR + "3;hurt r by 2 when hour=0;hurt r by 7 when wounds r=2;mend r when hour>=1;"
                + "hurt r by 0-5 when hour=2;hurt r by 1 when 1=2;");
        x.pass(1);
        is("an order acts on those behind it", () -> x.road(0, 3), 3);
        is("two carried out", () -> x.count(10), 2);
        x.pass(1);
        is("mended", () -> x.road(0, 3), 2);
        is("three", () -> x.count(10), 3);
        x.pass(1);
        is("hurt and mended, not by -5", () -> x.road(0, 3), 2);
        is("five", () -> x.count(10), 5);
        TavernRumours y = Edges.land(PAIR + "3;mend r when 1=1;hurt r by hour when hour<2;hurt r by 3 when hour=2;"
                + "hurt r by 1 when hour=2;");
        y.pass(1);
        is("no wound to mend, hurt by 0: none", () -> y.count(10), 0);
        y.pass(1);
        is("hurt by 1", () -> y.count(10), 1);
        y.pass(1);
        is("mended, hurt by 3, no more", () -> y.count(10), 3);
        is("broken", () -> y.road(0, 3), 3);
    }

    private void hushing() {
        TavernRumours x = Edges.land(PAIR
                + "1;rumour s at a on 0;hush a when hour<3;hush a when hour=1;hush b when hour=4;");
        is("hears all the same", () -> x.pass(1), 1);
        is("sends nobody", () -> x.count(8), 0);
        is("once hushed is enough", () -> x.pass(1) + x.count(10), 2);
        x.pass(1);
        is("still nobody", () -> x.count(8), 0);
        x.pass(1);
        is("sends in the next hour", () -> x.count(8), 1);
        is("b hears, hushed", () -> x.pass(1), 1);
        is("and sends nobody", () -> x.count(8), 0);
        x.pass(1);
        is("then it does", () -> x.count(8), 1);
        is("orders carried out", () -> x.count(10), 4);
        TavernRumours y = Edges.land(PAIR + "1;rumour s at a on 0;");
        y.hurt(0, 3);
        y.pass(1);
        y.mend(0);
        is("no open road: went out all the same", () -> y.pass(5) + y.count(8), 0);
    }

    /** The wounds of a road tell what a sum is, as far as 0 to 3 go. */
    private void isSum(String sum, int want) {
        String ahead = LAND
                + "rumour k at a on 0;hurt q by 1 when hour=0;hurt t by 3 when hour=0;hurt u by 3 when hour=0;";
        for (int wounds = 0; wounds < 2; wounds++) {
            String list = ahead + "hurt p by " + (wounds == 0 ? sum : "3-(" + sum + ")") + " when hour=1;";
            TavernRumours x = Edges.land(list);
            x.pass(2);
            int due3 = wounds == 0 ? want : 3 - want;
            is(list, () -> x.road(0, 3), Math.max(0, Math.min(3, due3)));
        }
        isTest("(" + sum + ")=" + (want < 0 ? "-" + -(long) want : want), true);
    }

    private void isTest(String test, boolean holds) {
        String ahead = LAND
                + "rumour k at a on 0;hurt q by 1 when hour=0;hurt t by 3 when hour=0;hurt u by 3 when hour=0;";
        TavernRumours x = Edges.land(ahead + "hurt p by 1 when hour=1 and [" + test + "];");
        x.pass(2);
        is(test, () -> x.road(0, 3), holds ? 1 : 0);
    }

    private void reckoning() {
        isSum("1+2*3-5", 2);
        isSum("8-4-2", 2);
        isSum("16/4/2", 2);
        isSum("7/2", 3);
        isSum("-7/2", -3);
        isSum("5/0", 0);
        isSum("0/0+1", 1);
        isSum("2*3/4", 1);
        isSum("3/4*8", 0);
        isSum("-(1-3)", 2);
        isSum("- - 2", 2);
        isSum("-1+3", 2);
        isSum("min(1,2)", 1);
        isSum("max(1,2)", 2);
        isSum("min(3-1,max(0,1)+5)", 2);
        isSum("hour", 1);
        isSum("length q-3", 2);
        isSum("length t-5", 2);
        isSum("wounds q", 1);
        isSum("wounds t", 3);
        isSum("heard k", 1);
        isSum("far a b", 2);
        isSum("far a c-5", 1);
        isSum("far a d", -1);
        isSum("far d d", 0);
        // 65536 * 65536 is 0, 65536 * 32768 is the smallest number, and it stays so by / -1 and by -
        isTest("65536*65536=0", true);
        isTest("65536*32768<0", true);
        isTest("65536*32768/-1=65536*32768", true);
        isTest("-(65536*32768)=65536*32768", true);
        isTest("65536*32768-1>0", true);
        isTest("65536*32767+65535+1<0", true);
        isTest("999999*999999/1000=-729379", true);
        isTest("open p", true);
        isTest("open t", false);
        isTest("knows a k", true);
        isTest("knows b k", false);
        isTest("parted a d", true);
        isTest("parted d e", true);
        isTest("parted a c", false);
        isTest("parted d d", false);
        isTest("not open p", false);
        isTest("not not open p", true);
        isTest("1<2", true);
        isTest("2<2", false);
        isTest("2<=2", true);
        isTest("3<=2", false);
        isTest("3>2", true);
        isTest("2>2", false);
        isTest("2>=2", true);
        isTest("1>=2", false);
        isTest("1=2", false);
        isTest("1=1 or 1=1 and 1=2", true);
        isTest("[1=1 or 1=1] and 1=2", false);
        isTest("1=2 and 1=1 or 1=1", true);
        isTest("not 1=2 and 1=2", false);
        isTest("not [1=2 and 1=2]", true);
        isTest("not 1=1 or 1=1", true);
    }

    private void travellers() {
        TavernRumours x = Edges.land(PAIR + "3;rumour s at a on 0;");
        x.pass(2);
        x.hurt(0, 1);
        is("longer now", () -> x.pass(3), 0);
        is("length 5", () -> x.pass(1), 1);
        x.hurt(0, 2);
        is("on the broken road", () -> x.count(8), 1);
        is("lost none yet", () -> x.count(13), 0);
        x.mend(0);
        x.pass(1);
        is("mended ahead of the hour: none lost", () -> x.count(8), 1);
        x.hurt(0, 1);
        x.pass(1);
        is("lost in the next hour", () -> x.count(13), 1);
        is("none walks", () -> x.count(8), 0);
        TavernRumours y = Edges.land(PAIR + "2;rumour s at a on 0;hurt r by 3 when hour=2;mend r when hour=2;");
        y.pass(2);
        is("broken and mended in one hour: none lost", () -> y.pass(1) + y.count(8) + y.count(13), 1);
        TavernRumours z = Edges.land(PAIR + "1;rumour s at a on 0;mend r when hour=1;");
        z.hurt(0, 3);
        z.pass(1);
        is("sets out on open roads alone", () -> z.count(8), 0);
        // two ways as long: b hears it once in the hour, both have arrived
        TavernRumours w = Edges.land(LAND + "rumour s at d on 0;");
        is("two arrive", () -> w.pass(2), 2);
        is("two go back", () -> w.count(8), 2);
    }

    // ---- 20
    private void waiting() {
        TavernRumours x = Edges.land(PAIR + "20;rumour s at a on 99;rumour t at a on 98;rumour u at b on 0;");
        is("behind 120 hours", () -> x.until(0), 120);
        is("nothing changed", () -> x.count(0) + x.count(9), 0);
        is("119", () -> x.until(1), 119);
        is("21", () -> x.until(2), 21);
        x.setMiles(0, 21);
        is("behind 121: not by then", () -> x.until(0), -1);
        x.pass(5);
        is("less", () -> x.until(2), 17);
        x.tell(0, 1);
        x.tell(1, 1);
        is("now", () -> x.until(1), 0);
        x.hurt(0, 3);
        is("parted", () -> x.until(2), -1);
        due.throwsIt("until -1", () -> x.until(-1), Edges.IOOBE);
        due.throwsIt("until 3", () -> x.until(3), Edges.IOOBE);
        TavernRumours y = Edges.land(PAIR + "1;rumour s at a on 0;hurt r by 3 when hour=1;mend r when hour=5;");
        is("lost on the way", () -> y.until(0), -1);
    }

    // ---- 21
    private void foreseeing() {
        TavernRumours x = Edges.land(LAND
                + "rumour l at a on 0;rumour m at d on 1;hush e when 1=2;hurt p by 1 when hour=3;"
                + "hurt s by 3 when hour=4;hurt u by 3 when hour=3;");
        int[] behind = {3, 3, 2, 2, 4, 3, 4 + 3 + 1, 1, 2};
        long before = x.digest();
        for (int what = 5; what < 14; what++) {
            int one = what;
            is("foresee " + what, () -> x.foresee(5, one), behind[what - 5]);
        }
        is("nothing changed", x::digest, before);
        is("hour 1", () -> x.foresee(1, 9), 1);
        is("hour 100", () -> x.foresee(100, 9), 5);
        due.throwsIt("0 hours", () -> x.foresee(0, 4), Edges.IAE);
        due.throwsIt("101 hours", () -> x.foresee(101, 14), Edges.IAE);
        due.throwsIt("what 4", () -> x.foresee(1, 4), Edges.IOOBE);
        due.throwsIt("what 14", () -> x.foresee(1, 14), Edges.IOOBE);
        due.throwsIt("what -1", () -> x.foresee(1, -1), Edges.IOOBE);
        x.pass(5);
        for (int what = 5; what < 14; what++) {
            int one = what;
            is("and so it came " + what, () -> x.count(one), behind[what - 5]);
        }
    }

    // ---- 22
    private void advising() {
        TavernRumours x = Edges.land(LAND + "rumour l at a on 90;");
        long before = x.digest();
        is("one hour: itself alone", () -> x.advise(0, 1), 0);
        is("two hours: d tells e", () -> x.advise(0, 2), 3);
        is("three hours: a tells b, as good", () -> x.advise(0, 3), 0);
        is("four hours: b tells both", () -> x.advise(0, 4), 1);
        is("sixty hours", () -> x.advise(0, 60), 0);
        is("nothing changed", x::digest, before);
        x.tell(1, 0);
        is("b knows", () -> x.advise(0, 60), 3);
        x.tell(4, 0);
        is("none better", () -> x.advise(0, 60), -1);
        is("in one hour", () -> x.advise(0, 1), 0);
        x.pass(60);
        is("all know", () -> x.advise(0, 1), -1);
        due.throwsIt("rumour -1", () -> x.advise(-1, 0), Edges.IOOBE);
        due.throwsIt("rumour 1", () -> x.advise(1, 61), Edges.IOOBE);
        due.throwsIt("0 hours", () -> x.advise(0, 0), Edges.IAE);
        due.throwsIt("61 hours", () -> x.advise(0, 61), Edges.IAE);
    }

    // ---- 23
    private void bestMending() {
        TavernRumours x = Edges.land(LAND);
        is("no wound", x::best, -1);
        x.hurt(4, 1);
        is("nothing gets better", x::best, 4);
        x.hurt(1, 1);
        is("the net gets shorter", x::best, 1);
        x.hurt(2, 2);
        is("still", x::best, 1);
        x.hurt(0, 3);
        is("p joins no parts, and is shorter than s", x::best, 0);
        x.hurt(2, 1);
        is("p or s joins a", x::best, 0);
        x.setMiles(0, 30);
        is("s is shorter", x::best, 2);
        long before = x.digest();
        x.best();
        is("nothing changed", x::digest, before);
        x.setMiles(0, 6);
        is("both as short", x::best, 0);
    }

    // ---- 24
    private void meanLength() {
        TavernRumours none = new TavernRumours();
        due.isDouble("no roads", none::mean, 0.0);
        TavernRumours x = Edges.land(LAND);
        due.isDouble("13 by 5", x::mean, 13.0 / 5.0);
        x.hurt(0, 1);
        due.isDouble("15 by 5", x::mean, 3.0);
        x.hurt(0, 3);
        due.isDouble("11 by 4", x::mean, 11.0 / 4.0);
        for (int r = 1; r < 5; r++) {
            x.hurt(r, 3);
        }
        due.isDouble("none open", x::mean, 0.0);
    }

    // ---- 25
    private void digests() {
        TavernRumours x = Edges.land(LAND + "rumour l at a on 0;rumour m at e on 1;hush a when hour=2;");
        is("digest", x::digest, digestOf(x));
        x.pass(4);
        x.hurt(3, 3);
        x.hurt(1, 1);
        Due.write(x, "abc");
        is("digest then", x::digest, digestOf(x));
        x.pass(1);
        is("digest with one lost", x::digest, digestOf(x));
    }

    private static long digestOf(TavernRumours x) {
        long d = 1697;
        for (int what = 0; what < 15; what++) {
            d = d * 31 + x.count(what);
        }
        for (int t = 0; t < x.count(1); t++) {
            for (int what = 0; what < 4; what++) {
                d = d * 31 + x.tavern(t, what);
            }
            for (int s = 0; s < x.count(3); s++) {
                d = d * 31 + x.since(t, s);
            }
        }
        for (int r = 0; r < x.count(2); r++) {
            for (int what = 0; what < 9; what++) {
                d = d * 31 + x.road(r, what);
            }
            d = d * 31 + x.detour(r);
            d = d * 31 + x.replace(r);
        }
        for (int s = 0; s < x.count(3); s++) {
            for (int what = 0; what < 4; what++) {
                d = d * 31 + x.rumour(s, what);
            }
        }
        return d;
    }
}
