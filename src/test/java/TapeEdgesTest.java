import java.util.ArrayList;
import java.util.List;

/** Edges of promises 1 to 5, and of the language as far as error 1 goes. */
public final class TapeEdgesTest {
    private static final Edges E = new Edges();
    private static final int BLANKS = 0x20202020;
    private static final int[] EVERY_SIDE = {Integer.MIN_VALUE, -1, Integer.MAX_VALUE};
    private static final String SIGNS = "abcdefghijklmnopqrstuvwxyz0123456789";
    private static final String HUSH = "tavern a;hush a when ";

    private TapeEdgesTest() {
    }

    public static void main(String[] args) {
        aNewObject();
        feeding();
        fullTapes();
        trimming();
        teaching();
        teachingAnew();
        listsAhead();
        teachingWrongly();
        errorPlaces();
        blanks();
        words();
        numbers();
        symbols();
        keywords();
        lists();
        depthOfEach();
        depthBehind();
        errorOne();
        tokens401();
        E.end("TapeEdgesTest");
    }

    private static int feedBlanks(TavernRumours x) {
        return x.feed(BLANKS, BLANKS, BLANKS, BLANKS, BLANKS);
    }

    private static TavernRumours tapeOf(int bytes) {
        TavernRumours x = new TavernRumours();
        while (x.count(14) < bytes) {
            feedBlanks(x);
        }
        x.trim(bytes);
        return x;
    }

    private static void aNewObject() {
        String[] what = {"it is the hour 0", "no taverns", "no roads", "no rumours", "no orders", "no open roads",
            "no spans", "no parts", "no travellers", "nobody knows a rumour", "no orders carried out",
            "the net has no length", "no wounded spans", "nobody was lost", "the tape is empty"};
        for (int i = 0; i < what.length; i++) {
            int one = i;
            E.test("Promise 1, a new object: " + what[i], () -> E.is("count", new TavernRumours().count(one), 0));
        }
        TavernRumours x = new TavernRumours();
        E.refused("Promise 1, a new object: there is no tavern 0", x, Edges.IOOBE, () -> x.tavern(0, 0));
        E.refused("Promise 1, a new object: there is no road 0", x, Edges.IOOBE, () -> x.road(0, 0));
        E.refused("Promise 1, a new object: there is no rumour 0", x, Edges.IOOBE, () -> x.rumour(0, 0));
        E.refused("Promise 1, a new object: nobody can be told", x, Edges.IOOBE, () -> x.tell(0, 0));
        E.test("Promise 1, a new object: hours go by in the empty land", () -> {
            TavernRumours y = new TavernRumours();
            E.is("pass", y.pass(100), 0);
            E.is("hour", y.count(0), 100);
        });
    }

    private static void feeding() {
        E.test("Promise 2, feed: twenty bytes behind the first call", () -> {
            E.is("feed", feedBlanks(new TavernRumours()), 20);
        });
        E.test("Promise 2, feed: the highest byte of each number comes first", () -> {
            // "tavern a;tavern bcd;"
            TavernRumours x = new TavernRumours();
            x.feed(0x74617665, 0x726e2061, 0x3b746176, 0x65726e20, 0x6263643b);
            E.is("teach", x.teach(), 0);
            E.is("taverns", x.count(1), 2);
        });
        E.test("Promise 2, feed: it appends behind what stands there, not behind 20, 40, ..", () -> {
            TavernRumours x = new TavernRumours();
            Due.write(x, "tavern a;");
            E.is("feed", x.feed(0x74617665, 0x726e2062, 0x3b202020, BLANKS, BLANKS), 29);
            E.is("teach", x.teach(), 0);
            E.is("taverns", x.count(1), 2);
        });
        E.test("Promise 2, feed: bytes of negative numbers are bytes over 127, and no letters", () -> {
            // an a with its highest bit set, where a name is due
            TavernRumours x = new TavernRumours();
            x.feed(0x74617665, 0x726e20e1, 0x3b202020, BLANKS, BLANKS);
            E.is("teach", x.teach(), 1);
            E.is("errorAt", x.errorAt(), 7);
        });
        E.test("Promise 2, feed: the least and the greatest numbers are bytes as well", () -> {
            TavernRumours x = new TavernRumours();
            int least = Integer.MIN_VALUE;
            int greatest = Integer.MAX_VALUE;
            E.is("feed", x.feed(least, greatest, -1, 0, least), 20);
            E.is("teach", x.teach(), 1);
            E.is("errorAt", x.errorAt(), 0);
        });
    }

    private static void fullTapes() {
        E.test("Promise 2, feed: a hundred calls fill the tape to 2000", () -> {
            TavernRumours x = new TavernRumours();
            for (int i = 1; i <= 100; i++) {
                E.is("feed " + i, feedBlanks(x), 20 * i);
            }
        });
        for (int bytes : new int[] {2000, 1999, 1981}) {
            TavernRumours x = tapeOf(bytes);
            E.refused("Promise 2, feed: refused with " + bytes + " bytes", x, Edges.ISE, () -> feedBlanks(x));
        }
        E.test("Promise 2, feed: the 1980 bytes ahead leave room for twenty", () -> {
            E.is("feed", feedBlanks(tapeOf(1980)), 2000);
        });
        E.test("Promise 2, feed: a refused call changes no byte of the tape", () -> {
            TavernRumours x = tapeOf(1976);
            Due.write(x, "tavern a;");
            E.refuses(x, Edges.ISE, () -> x.feed(-1, -1, -1, -1, -1));
            E.is("bytes", x.count(14), 1985);
            E.is("teach", x.teach(), 0);
            E.is("taverns", x.count(1), 1);
        });
        E.test("Promise 2, feed: there is room again behind teach", () -> {
            TavernRumours x = tapeOf(2000);
            x.teach();
            E.is("feed", feedBlanks(x), 20);
        });
        E.test("Promise 2, feed: there is room again behind trim", () -> {
            TavernRumours x = tapeOf(2000);
            x.trim(1980);
            E.is("feed", feedBlanks(x), 2000);
        });
        E.test("Terms 1, the tape: a list may have all of 2000 bytes, to the last one", () -> {
            TavernRumours x = tapeOf(1980);
            // "tavern a;tavern bcd;"
            x.feed(0x74617665, 0x726e2061, 0x3b746176, 0x65726e20, 0x6263643b);
            E.is("teach", x.teach(), 0);
            E.is("taverns", x.count(1), 2);
        });
        for (String end : new String[] {"tavern a", "hush a when 12", "hush a when 1<", "hush a when 1>",
                "hush a when -"}) {
            E.test("Terms 1, the tape: with 2000 bytes that end with " + end + " the list ends at 2000", () -> {
                TavernRumours x = new TavernRumours();
                Due.write(x, " ".repeat(2000 - end.length()) + end);
                E.is("bytes", x.count(14), 2000);
                E.is("teach", x.teach(), 1);
                E.is("errorAt", x.errorAt(), 2000);
            });
        }
    }

    private static void trimming() {
        E.test("Promise 3, trim: n may be the number of bytes", () -> E.is("trim", tapeOf(40).trim(40), 40));
        E.test("Promise 3, trim: n may be one less", () -> {
            TavernRumours x = tapeOf(40);
            E.is("trim", x.trim(39), 39);
            E.is("bytes", x.count(14), 39);
        });
        E.test("Promise 3, trim: n may be 0", () -> {
            TavernRumours x = tapeOf(40);
            E.is("trim", x.trim(0), 0);
            E.is("bytes", x.count(14), 0);
        });
        E.test("Promise 3, trim: an empty tape may be shortened to 0", () -> {
            E.is("trim", new TavernRumours().trim(0), 0);
        });
        E.test("Promise 3, trim: a full tape may be shortened to 2000", () -> {
            E.is("trim", tapeOf(2000).trim(2000), 2000);
        });
        for (int n : EVERY_SIDE) {
            TavernRumours x = tapeOf(40);
            E.refused("Promise 3, trim: refused with n " + n, x, Edges.IAE, () -> x.trim(n));
        }
        TavernRumours x = tapeOf(40);
        E.refused("Promise 3, trim: refused with one more than the bytes", x, Edges.IAE, () -> x.trim(41));
        TavernRumours empty = new TavernRumours();
        E.refused("Promise 3, trim: refused with 1 of an empty tape", empty, Edges.IAE, () -> empty.trim(1));
        TavernRumours full = tapeOf(2000);
        E.refused("Promise 3, trim: refused with 2001 of a full tape", full, Edges.IAE, () -> full.trim(2001));
        E.test("Promise 3, trim: refused with as many bytes as there were ahead of teach", () -> {
            TavernRumours y = tapeOf(40);
            y.teach();
            E.refuses(y, Edges.IAE, () -> y.trim(40));
        });
        E.test("Promise 3, trim: the first bytes are those that are kept", () -> {
            TavernRumours y = new TavernRumours();
            Due.write(y, "tavern a;tavern b;?");
            y.trim(18);
            E.is("teach", y.teach(), 0);
            E.is("taverns", y.count(1), 2);
        });
        E.test("Promise 3, trim: a word, number or symbol that it cuts is as short as it was cut", () -> {
            String[][] cut = {{"tavern abcdefghij", "k;", ";"}, {"tavern a;hush a when 99999", "99<1;", "<1;"},
                {"tavern a;hush a when 1<", "=2;", "2;"}};
            for (String[] one : cut) {
                TavernRumours y = new TavernRumours();
                Due.write(y, one[0] + one[1]);
                y.trim(one[0].length());
                E.is("teach " + one[0], Due.teach(y, one[2]), 0);
            }
        });
        String[] ahead = {"tavern abc", "tavern a;hush a when 12", "tavern a;hush a when 1<",
                "tavern a;hush a when 1>"};
        String[] cut = {"de;", "34=1;", "=2;", "=2;"};
        for (int i = 0; i < 4; i++) {
            int one = i;
            E.test("Promise 3, trim: the bytes that it cut off are not read, behind " + ahead[i], () -> {
                TavernRumours y = new TavernRumours();
                Due.write(y, ahead[one] + cut[one]);
                y.trim(ahead[one].length());
                E.is("teach", y.teach(), 1);
                E.is("errorAt", y.errorAt(), ahead[one].length());
            });
        }
    }

    private static void teaching() {
        E.test("Promise 4, teach: an empty tape is a list, and nothing is left but the hour", () -> {
            TavernRumours x = Edges.land(Edges.PAIR + "1;rumour s at a on 0;hush a when 1=1;");
            x.pass(2);
            E.is("teach", x.teach(), 0);
            E.is("all counts but the hour", x.count(1) + x.count(2) + x.count(3) + x.count(4) + x.count(9), 0);
            E.is("hour", x.count(0), 2);
        });
        E.test("Promise 4, teach: the tape is empty behind a list", () -> {
            E.is("bytes", Edges.land("tavern a;").count(14), 0);
        });
        E.test("Promise 4, teach: what it read is not read again with the next list", () -> {
            TavernRumours x = Edges.land("tavern a;");
            E.is("teach", Due.teach(x, "tavern b;"), 0);
            E.is("taverns", x.count(1), 1);
        });
        E.test("Promise 4, teach: the hour stays", () -> {
            TavernRumours x = new TavernRumours();
            x.pass(7);
            Due.teach(x, "tavern a;");
            E.is("hour", x.count(0), 7);
        });
        String late = "tavern a;rumour s at a on ";
        E.test("Promise 4, teach: a rumour that begins an hour ahead of the hour begins never", () -> {
            TavernRumours x = new TavernRumours();
            x.pass(7);
            Due.teach(x, late + "6;");
            E.is("heard", x.pass(100), 0);
            E.is("since", x.since(0, 0), -1);
        });
        E.test("Promise 4, teach: a rumour that begins in the very hour begins", () -> {
            TavernRumours x = new TavernRumours();
            x.pass(7);
            Due.teach(x, late + "7;");
            E.is("heard", x.pass(1), 1);
            E.is("since", x.since(0, 0), 7);
        });
    }

    /** All things that could stay behind a list that takes the place of another one. */
    private static void teachingAnew() {
        String list = Edges.PAIR + "5;rumour s at a on 2;hurt r by 3 when hour=3;";
        TavernRumours x = Edges.land(list);
        x.setMiles(0, 4);
        x.pass(3);
        x.tell(1, 0);
        x.pass(1);
        E.test("Promise 4, teach: the land had changed ahead of the new list", () -> {
            E.is("wounds", x.road(0, 3), 3);
            E.is("miles", x.road(0, 2), 4);
            E.is("known", x.count(9), 2);
            E.is("lost", x.count(13), 1);
            E.is("carried out", x.count(10), 1);
        });
        x.mend(0);
        TavernRumours walking = Edges.land(list);
        walking.pass(3);
        E.test("Promise 4, teach: someone was on the way ahead of the new list", () -> {
            E.is("travellers", walking.count(8), 1);
        });
        Due.teach(walking, list);
        Due.teach(x, list.replace("on 2", "on 5"));
        E.test("Promise 4, teach: no wounds are left", () -> E.is("wounds", x.road(0, 3), 0));
        E.test("Promise 4, teach: miles set by hand are gone", () -> E.is("miles", x.road(0, 2), 5));
        E.test("Promise 4, teach: nobody knows what was heard", () -> E.is("known", x.count(9), 0));
        E.test("Promise 4, teach: none who were lost are told", () -> E.is("lost", x.count(13), 0));
        E.test("Promise 4, teach: no orders carried out are told", () -> E.is("carried out", x.count(10), 0));
        E.test("Promise 4, teach: nobody is on the way", () -> E.is("travellers", walking.count(8), 0));
        E.test("Promise 4, teach: a tavern that sent travellers sends them anew", () -> {
            x.pass(1);
            E.is("none yet", x.count(8), 0);
            x.pass(1);
            E.is("travellers", x.count(8), 1);
        });
        E.test("Promise 4, teach: names told ahead are unknown", () -> {
            E.is("teach", Due.teach(x, "rumour o at a on 1;"), 3);
        });
    }

    /** Nothing of the lists ahead is left, be it one or two or one with an error. */
    private static void listsAhead() {
        String[] lines = {"tavern t", "tavern a;tavern b;road r", "tavern a;rumour s", "tavern a;hush a when 1=1"};
        String[] behind = {";", " from a to b miles 1;", " at a on 0;", ";"};
        int[] most = {10, 14, 6, 20};
        for (int kind = 0; kind < 4; kind++) {
            int what = kind + 1;
            String[] parts = lines[kind].split(";");
            String ahead = lines[kind].substring(0, lines[kind].length() - parts[parts.length - 1].length());
            String last = parts[parts.length - 1];
            String full = ahead + (kind == 3 ? (last + ";").repeat(20) : Edges.numbered(most[kind], last,
                    behind[kind]));
            String one = ahead + (kind == 3 ? last + ";" : last + "0" + behind[kind]);
            E.test("Promise 4, teach: the limits count anew, of " + last.split(" ")[0], () -> {
                TavernRumours x = new TavernRumours();
                for (int i = 0; i < 4; i++) {
                    E.is("teach", Due.teach(x, full), 0);
                    E.is("how many", x.count(what), most[what - 1]);
                }
            });
            E.test("Promise 4, teach: nothing is left of two full lists, of " + last.split(" ")[0], () -> {
                TavernRumours x = Edges.land(full);
                Due.teach(x, full);
                for (int i = 0; i < 3; i++) {
                    E.is("teach", Due.teach(x, one), 0);
                    E.is("how many", x.count(what), 1);
                }
            });
            E.test("Promise 4, teach: nothing is left of a list with an error, of " + last.split(" ")[0], () -> {
                TavernRumours x = new TavernRumours();
                E.is("teach", Due.teach(x, full + "tavern"), 1);
                E.is("teach", Due.teach(x, full + "hush z when 1=1;"), what == 4 ? 4 : 3);
                E.is("teach", Due.teach(x, one), 0);
                E.is("how many", x.count(what), 1);
            });
        }
        E.test("Promise 4, teach: the ways of the list ahead are gone, if the new one has no roads", () -> {
            TavernRumours x = Edges.land(Edges.PAIR + "1;");
            E.is("far, parts and net", x.far(0, 1) + x.count(7) + x.count(11), 3);
            Due.teach(x, "tavern a;tavern b;");
            E.is("far", x.far(0, 1), -1);
            E.is("parts", x.count(7), 2);
            E.is("net", x.count(11), 0);
        });
        E.test("Promise 4, teach: an order of two lists ahead is given no more", () -> {
            TavernRumours x = Edges.land(Edges.PAIR + "1;hurt r by 3 when 1=1;");
            Due.teach(x, Edges.PAIR + "1;mend r when 1=1;");
            Due.teach(x, Edges.PAIR + "1;hurt r by 1 when 1=1;");
            x.pass(1);
            E.is("wounds", x.road(0, 3), 1);
        });
    }

    private static void teachingWrongly() {
        String[] wrong = {"", "tavern", "tavern a;tavern a;", "hush a when 1=1;",
            Edges.numbered(11, "tavern t", ";"), "tavern a;rumour s at a on 100;"};
        for (int error = 1; error <= 5; error++) {
            int one = error;
            E.test("Promise 4, teach: error " + error + " leaves all as it is, but the tape is empty", () -> {
                TavernRumours x = busy();
                TavernRumours same = busy();
                Due.write(x, wrong[one]);
                E.is("teach", x.teach(), one);
                E.is("bytes", x.count(14), 0);
                E.is("digest", x.digest(), same.digest());
                x.pass(9);
                same.pass(9);
                E.is("digest later", x.digest(), same.digest());
            });
        }
        E.test("Promise 4, teach: what stood ahead of an error is not taught", () -> {
            TavernRumours x = new TavernRumours();
            E.is("teach", Due.teach(x, "tavern a;tavern b;tavern"), 1);
            E.is("taverns", x.count(1), 0);
        });
    }

    private static TavernRumours busy() {
        TavernRumours x = Edges.land(Edges.LAND + "rumour l at a on 0;rumour m at e on 1;hurt q by 1 when hour=2;"
                + "hurt p by 3 when hour=4;mend p when hour=6;hush c when hour>6 and hour<11;");
        x.pass(5);
        x.hurt(3, 2);
        x.setMiles(2, 7);
        return x;
    }

    private static void errorPlaces() {
        E.test("Promise 5, errorAt: -1 ahead of the first teach", () -> {
            E.is("errorAt", new TavernRumours().errorAt(), -1);
        });
        E.test("Promise 5, errorAt: 0 if the first byte is wrong", () -> E.taught("#", 1, 0));
        E.test("Promise 5, errorAt: -1 if the latest teach had none, though one ahead of it had", () -> {
            TavernRumours x = new TavernRumours();
            Due.teach(x, "tavern tavern;");
            E.is("errorAt", x.errorAt(), 7);
            Due.teach(x, "tavern a;");
            E.is("errorAt then", x.errorAt(), -1);
        });
        E.test("Promise 5, errorAt: the latest error takes the place of the one ahead", () -> {
            TavernRumours x = new TavernRumours();
            Due.teach(x, "tavern tavern;");
            Due.teach(x, "tavern a;tavern a;");
            E.is("errorAt", x.errorAt(), 16);
        });
        E.test("Promise 5, errorAt: other calls leave it", () -> {
            TavernRumours x = new TavernRumours();
            Due.teach(x, "tavern tavern;");
            x.pass(3);
            feedBlanks(x);
            x.trim(2);
            E.is("errorAt", x.errorAt(), 7);
        });
    }

    private static void blanks() {
        E.right("Terms 1, blanks: at the beginning", "  tavern a;");
        E.right("Terms 1, blanks: at the end", "tavern a;  ");
        E.right("Terms 1, blanks: between tokens that could stand side by side", "tavern a ; tavern b ;");
        E.right("Terms 1, blanks: none between tokens that cannot be read as one",
                "tavern a;hush a when-1<(2)and 1<=2;");
        E.right("Terms 1, blanks: none between a number and a word", "tavern a;hush a when 1=1and 1=1;");
        E.right("Terms 1, blanks: nothing but blanks", "    ");
        E.right("Terms 1, line ends: at the beginning", "\n\ntavern a;");
        E.right("Terms 1, line ends: at the end", "tavern a;\n\n");
        E.right("Terms 1, line ends: between tokens", "tavern\na\n;\n\ntavern \n b;");
        E.right("Terms 1, line ends: nothing but line ends", "\n\n");
        E.wrong("Terms 1, blanks: they have to stand between two words", 1, "?taverna;");
        E.wrong("Terms 1, blanks: they have to stand between a word and a number", 1,
                Edges.PAIR.replace("miles ", "?miles1;"));
        E.test("Terms 1, blanks: a blank parts a word", () -> E.taught("tavern a b;", 1, 9));
        E.test("Terms 1, blanks: a line end parts a word", () -> E.taught("tavern a\nb;", 1, 9));
        E.wrong("Terms 1, blanks: a blank parts a number", 1, HUSH + "1 ?1=1;");
        E.wrong("Terms 1, blanks: a blank parts < and =", 1, HUSH + "1< ?=2;");
        E.wrong("Terms 1, blanks: a blank parts > and =", 1, HUSH + "1> ?=2;");
        for (int sign : new int[] {0, 9, 11, 12, 13, 31, 33, 127, 128, 160, 255}) {
            E.wrong("Terms 1, blanks: byte " + sign + " is none", 1, "tavern a;?" + (char) sign + "tavern b;");
        }
    }

    private static void words() {
        E.right("Terms 1, a word: one letter", "tavern a;");
        E.right("Terms 1, a word: ten letters", "tavern abcdefghij;");
        E.right("Terms 1, a word: a letter and nine digits", "tavern a012345678;");
        E.wrong("Terms 1, a word: eleven letters are too long", 1, "tavern ?abcdefghijk;");
        E.wrong("Terms 1, a word: ten bytes and a digit are too long", 1, "tavern ?abcdefghij0;");
        E.wrong("Terms 1, a word: eleven letters at the end of the tape", 1, "tavern ?abcdefghijk");
        E.wrong("Terms 1, a word: a keyword with too many letters behind it is too long", 1, "?tavernabcde x;");
        E.right("Terms 1, a word: a and z are letters", "tavern a;tavern z;tavern az;tavern za;");
        E.right("Terms 1, a word: 0 and 9 are digits", "tavern a0;tavern a9;");
        int[] beside = {'a' - 1, 'z' + 1, 'A', 'Z', '_', '@', '0' - 2, '9' + 1, 'a' + 128, 'z' + 128};
        for (int sign : beside) {
            E.wrong("Terms 1, a word: byte " + sign + " is no letter and no digit", 1, "tavern a?" + (char) sign + ";");
            E.wrong("Terms 1, a word: byte " + sign + " does not begin it", 1, "tavern ?" + (char) sign + ";");
        }
        for (char digit : "09".toCharArray()) {
            E.wrong("Terms 1, a word: " + digit + " does not begin it", 1, "tavern ?" + digit + "a;");
        }
        E.test("Terms 1, a word: two are the same only with the same bytes and as long", () -> {
            E.taught("tavern a;tavern a0;tavern a00;tavern b;tavern a1;tavern aa;tavern a9;tavern cm;", 0, -1);
        });
        E.test("Terms 1, a word: no two of all that have two bytes are the same", () -> {
            E.is("lists with an error", wrongListsOfTwoBytes(), 0);
        });
        E.test("Terms 1, a word: two of ten bytes differ also in the last one", () -> {
            E.taught("tavern zzzzzzzzzy;tavern zzzzzzzzzz;tavern zzzzzzzzz9;tavern yzzzzzzzzz;", 0, -1);
        });
        E.test("Terms 1, a word: two of ten bytes are the same", () -> {
            E.taught("tavern zzzzzzzzzy;tavern zzzzzzzzzy;", 2, 25);
        });
    }

    /** Each five names with each other five. */
    private static int wrongListsOfTwoBytes() {
        List<String> fives = new ArrayList<>();
        StringBuilder five = new StringBuilder();
        int names = 0;
        for (int i = 0; i < 26 * 36; i++) {
            String name = "" + SIGNS.charAt(i / 36) + SIGNS.charAt(i % 36);
            if (!List.of("to", "at", "on", "by", "or").contains(name)) {
                five.append("tavern ").append(name).append(";");
                names++;
            }
            if (names == 5 || i == 26 * 36 - 1) {
                fives.add(five.toString());
                five.setLength(0);
                names = 0;
            }
        }
        int wrong = 0;
        for (int a = 0; a < fives.size(); a++) {
            for (int b = 0; b < a; b++) {
                wrong += Due.teach(new TavernRumours(), fives.get(a) + fives.get(b)) == 0 ? 0 : 1;
            }
        }
        return wrong;
    }

    private static void numbers() {
        E.right("Terms 1, a number: one digit", HUSH + "0<9;");
        E.right("Terms 1, a number: six digits", HUSH + "999999>000000;");
        E.wrong("Terms 1, a number: seven digits are too long", 1, HUSH + "?1000000=1;");
        E.wrong("Terms 1, a number: seven digits are too long, also with zeros ahead", 1, HUSH + "?0000001=1;");
        E.wrong("Terms 1, a number: seven digits at the end of the tape", 1, HUSH + "?1234567");
        E.test("Terms 1, a number: of six digits all count", () -> {
            E.is("holds", Edges.holds("", "999999=999*1000+999") ? 1 : 0, 1);
        });
        E.test("Terms 1, a number: zeros ahead count for nothing", () -> {
            E.is("holds", Edges.holds("", "000010=10") ? 1 : 0, 1);
        });
        E.test("Terms 1, a number: miles with zeros ahead", () -> E.taught(Edges.PAIR + "000030;", 0, -1));
    }

    private static void symbols() {
        String[] tests = {"(1)=1", "[1=1]", "min(1,2)=1", "1+1=2", "1-1=0", "1*1=1", "1/1=1", "1<2", "2>1", "1=1",
            "1<=1", "1>=1"};
        for (String test : tests) {
            E.right("Terms 1, symbols: as in " + test, HUSH + test + ";");
        }
        E.wrong("Terms 1, symbols: the longest is read, so that <= needs no second =", 1, HUSH + "1<=?=1;");
        E.wrong("Terms 1, symbols: = and < are two", 1, HUSH + "1=?<2;");
        E.wrong("Terms 1, symbols: = and > are two", 1, HUSH + "1=?>2;");
        E.wrong("Terms 1, symbols: < and > are two", 1, HUSH + "1<?>2;");
        E.wrong("Terms 1, symbols: = and = are two", 1, HUSH + "1=?=2;");
        E.wrong("Terms 1, symbols: a list ends with ;", 1, HUSH + "1=1?");
        String none = "!\"#$%&'.:?@\\^_`{|}~";
        for (char sign : none.toCharArray()) {
            E.test("Terms 1, symbols: no token begins with " + sign, () -> {
                E.taught(HUSH + "1=1" + sign + ";", 1, HUSH.length() + 3);
            });
        }
        E.wrong("Terms 1, symbols: a byte with which no token begins is wrong ahead of what could not go on", 1,
                HUSH + "1=1;?~tavern");
    }

    private static void keywords() {
        String all = "tavern road from to miles rumour at on hurt by mend hush when hour length wounds far heard open "
                + "knows parted not and or min max";
        for (String keyword : all.split(" ")) {
            E.wrong("Terms 1, keywords: " + keyword + " is no name", 1, "tavern ?" + keyword + ";");
            E.right("Terms 1, keywords: " + keyword + " with a digit behind it is a name", "tavern " + keyword + "0;");
            String shorter = keyword.substring(0, keyword.length() - 1);
            E.right("Terms 1, keywords: " + keyword + " without its last letter is a name", "tavern " + shorter + ";");
        }
    }

    private static void lists() {
        E.right("Terms 1, the grammar: a list of no lines", "");
        E.right("Terms 1, the grammar: a list of one line", "tavern a;");
        E.wrong("Terms 1, the grammar: no empty line", 1, "?;");
        E.wrong("Terms 1, the grammar: no second ;", 1, "tavern a;?;");
        E.wrong("Terms 1, the grammar: no line without ;", 1, "tavern a ?tavern b;");
        E.right("Terms 1, the grammar: a test of one single", HUSH + "1=1;");
        E.right("Terms 1, the grammar: a test of many", HUSH + "1=1 or 1=1 and 1=1 and not 1=1 or[1=1];");
        E.wrong("Terms 1, the grammar: no test of none", 1, HUSH + "?;");
        E.wrong("Terms 1, the grammar: one comparison, not two", 1, HUSH + "1<2?<3;");
        E.wrong("Terms 1, the grammar: a sum is no test", 1, HUSH + "1?;");
        E.wrong("Terms 1, the grammar: no test in ( )", 1, HUSH + "(1?=1);");
        E.wrong("Terms 1, the grammar: no sum in [ ]", 1, HUSH + "[1?]=1;");
        E.wrong("Terms 1, the grammar: no empty ( )", 1, HUSH + "(?)=1;");
        E.wrong("Terms 1, the grammar: no empty [ ]", 1, HUSH + "[?];");
        E.wrong("Terms 1, the grammar: min of one", 1, HUSH + "min(1?)=1;");
        E.wrong("Terms 1, the grammar: max of three", 1, HUSH + "max(1,2?,3)=1;");
        E.wrong("Terms 1, the grammar: no + in front of a value", 1, HUSH + "?+1=1;");
        E.wrong("Terms 1, the grammar: no - in front of a number behind miles", 1, Edges.PAIR + "?-1;");
        E.wrong("Terms 1, the grammar: no sum behind miles", 1, Edges.PAIR + "1?+1;");
        E.wrong("Terms 1, the grammar: no sum behind on", 1, "tavern a;rumour s at a on 1?+1;");
        E.wrong("Terms 1, the grammar: hurt needs by", 1, Edges.PAIR + "1;hurt r ?when 1=1;");
        E.wrong("Terms 1, the grammar: mend has no by", 1, Edges.PAIR + "1;mend r ?by 1 when 1=1;");
        E.wrong("Terms 1, the grammar: an order needs when", 1, Edges.PAIR + "1;mend r?;");
    }

    private static void depthOfEach() {
        String[][] nested = {{"(", "1", ")", "=1"}, {"[", "1=1", "]", ""}, {"-", "1", "", "=1"}, {"not ", "1=1", "",
                ""},
            {"min(1,", "1", ")", "=1"}, {"max(1,", "1", ")", "=1"}};
        for (String[] kind : nested) {
            String name = "Terms 1, depth: " + kind[0].trim();
            String eight = kind[0].repeat(8);
            E.right(name + " makes it 8", HUSH + eight + kind[1] + kind[2].repeat(8) + kind[3] + ";");
            String last = kind[0].startsWith("m") ? kind[0].replace("(", "?(") : "?" + kind[0];
            E.wrong(name + " would make it 9", 1, HUSH + eight + last + kind[1] + kind[2].repeat(9) + kind[3] + ";");
        }
        String by = Edges.PAIR + "1;hurt r by ";
        E.right("Terms 1, depth: 8 in the sum of hurt", by + "(((-(-(-1))))) when 1=1;");
        E.wrong("Terms 1, depth: 9 in the sum of hurt", 1, by + "(((-(-(-?(1)))))) when 1=1;");
        E.right("Terms 1, depth: the first part of min may make it 8", HUSH + "-------min(1,2)=1;");
        E.wrong("Terms 1, depth: the first part of min may not be 9 deep", 1, HUSH + "-------min(?(1),2)=1;");
        E.wrong("Terms 1, depth: the second part of max may not be 9 deep", 1, HUSH + "-------max(1,?-2)=1;");
        E.right("Terms 1, depth: of all kinds together 8", HUSH + "not[not[-(-min(1,2))=1]];");
        E.wrong("Terms 1, depth: of all kinds together 9, at -", 1, HUSH + "not[not[-(-min(1,?-2))=1]];");
        E.wrong("Terms 1, depth: of all kinds together 9, at (", 1, HUSH + "not[not[-(-min(1,?(2)))=1]];");
        E.wrong("Terms 1, depth: of all kinds together 9, at [", 1, HUSH + "not[not[not[not[?[1=1]]]]];");
        E.wrong("Terms 1, depth: of all kinds together 9, at not", 1, HUSH + "not[not[not[not[?not 1=1]]]];");
    }

    /** Behind what made it greater, the depth is as it was ahead. */
    private static void depthBehind() {
        String deep = "((((((((1))))))))";
        E.right("Terms 1, depth: as ahead behind )", HUSH + deep + "+" + deep + "=1;");
        E.right("Terms 1, depth: as ahead behind ]", HUSH + "[1=1]and " + deep + "=1;");
        E.right("Terms 1, depth: as ahead behind what a - turns", HUSH + "--------1+--------1=-1-1;");
        E.right("Terms 1, depth: a - turns a value, no product", HUSH + "-1*" + deep + "=1;");
        E.right("Terms 1, depth: a - between two products does not count", HUSH + "1-" + deep + "=0;");
        E.right("Terms 1, depth: as ahead behind what a not turns", HUSH + "not 1=2 and " + deep + "=1;");
        E.wrong("Terms 1, depth: a not turns all of a comparison", 1, HUSH + "not 1=(((((((?(1))))))));");
        E.right("Terms 1, depth: as ahead behind the ) of min", HUSH + "min(1,2)*" + deep + "=1;");
        E.right("Terms 1, depth: the second part of min is as deep as the first one",
                HUSH + "min(" + deep.substring(1, 16) + "," + deep.substring(1, 16) + ")=1;");
        E.right("Terms 1, depth: 0 again in the test of hurt",
                Edges.PAIR + "1;hurt r by " + deep + " when " + deep + "=1;");
        E.right("Terms 1, depth: 0 again in the next line", HUSH + deep + "=1;hush a when " + deep + "=1;");
        E.right("Terms 1, depth: both sides of a comparison may be 8 deep", HUSH + deep + "=" + deep + ";");
    }

    private static void errorOne() {
        E.wrong("Terms 1, error 1: the end of the tape, at its length", 1, "tavern?");
        E.test("Terms 1, error 1: the end of the tape, at its length, behind blanks", () -> {
            E.taught("tavern \n ", 1, 9);
        });
        E.test("Terms 1, error 1: the end of the tape where a ; is due", () -> E.taught("tavern a", 1, 8));
        E.wrong("Terms 1, error 1: at the first byte of the token, not at the blanks ahead of it", 1,
                "tavern a;  ?a;");
        E.wrong("Terms 1, error 1: the first wrong token, not the second one", 1, "tavern ?tavern #;");
        E.wrong("Terms 1, error 1: a token too long is told at its first byte", 1, "tavern a;tavern ?abcdefghijkl;");
        E.wrong("Terms 1, error 1: a wrong token ahead of one too long", 1, "tavern ?1 abcdefghijkl;");
        E.wrong("Terms 1, error 1: told ahead of errors 2 to 5 to its left", 1,
                "tavern a;tavern a;rumour s at b on 100;?miles");
    }

    private static void tokens401() {
        // with n times +0 these are 10 + 2n tokens
        String sum = HUSH + "0";
        String full = sum + "+0".repeat(195) + "=0;";
        E.right("Terms 1, error 1: 400 tokens are allowed, the end of the tape is not counted", full);
        E.right("Terms 1, error 1: 400 tokens and blanks behind them", full + " \n ");
        E.wrong("Terms 1, error 1: the 401st token, if it begins a line", 1, full + " ?tavern b;");
        E.wrong("Terms 1, error 1: the 401st token, if it ends a list", 1, HUSH + "-0" + "+0".repeat(195) + "=0?;");
        E.wrong("Terms 1, error 1: the 401st token, though it is too long", 1, full + "?abcdefghijklm");
        E.wrong("Terms 1, error 1: the 401st token, though no token begins so", 1, full + "?#");
        E.test("Terms 1, error 1: 400 tokens that are no list end at the tape's end", () -> {
            String list = HUSH + "-0" + "+0".repeat(195) + "=0";
            E.taught(list, 1, list.length());
        });
        E.wrong("Terms 1, error 1: a wrong token ahead of the 401st", 1, sum + "+0".repeat(190) + "=0?=0"
                + "+0".repeat(9));
        E.test("Terms 1, error 1: the 400th token is looked at like others", () -> {
            String list = full.substring(0, full.length() - 1);
            E.taught(list + ",", 1, list.length());
        });
    }
}
