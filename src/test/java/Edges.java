import java.util.HashSet;
import java.util.Set;
import java.util.function.LongSupplier;
import java.util.function.Supplier;

/** Tests of single edges: each one's head says the promise, or the chapter of the Terms, and the case. */
final class Edges {
    static final Class<IndexOutOfBoundsException> IOOBE = IndexOutOfBoundsException.class;
    static final Class<IllegalArgumentException> IAE = IllegalArgumentException.class;
    static final Class<IllegalStateException> ISE = IllegalStateException.class;

    /** a -2- b -3- c, a -6- c (s), and d -1- e apart; e has a second road to d, u, as long. */
    static final String LAND = "tavern a;tavern b;tavern c;tavern d;tavern e;"
            + "road p from a to b miles 2;road q from b to c miles 3;road s from a to c miles 6;"
            + "road t from d to e miles 1;road u from e to d miles 1;";
    /** Behind it the miles of the only road are due. */
    static final String PAIR = "tavern a;tavern b;road r from a to b miles ";

    /** A call of which one number goes from edge to edge. */
    interface Call {
        long on(TavernRumours x, int number);
    }

    private final Due due = new Due();
    private final Set<String> heads = new HashSet<>();
    private String head = "";

    void test(String itsHead, Runnable body) {
        head = itsHead;
        if (!head.matches("(Promise ([1-9]|1[0-9]|2[0-5])|Terms|Terms [123]), [^:]+: .+")) {
            due.tell("not a head of a test: " + head);
        }
        if (!heads.add(head)) {
            due.tell("two tests have this head: " + head);
        }
        try {
            body.run();
        } catch (RuntimeException thrown) {
            due.tell(head + ": threw " + thrown);
        }
    }

    void is(String call, long got, long want) {
        due.is(head + ": " + call, () -> got, want);
    }

    void isDouble(String call, double got, double want) {
        due.isDouble(head + ": " + call, () -> got, want);
    }

    /** The call throws just this exception, and changes nothing. */
    void refuses(TavernRumours x, Class<? extends RuntimeException> exception, LongSupplier call) {
        long before = x.digest();
        int place = x.errorAt();
        due.throwsIt(head, call, exception);
        is("digest behind the refused call", x.digest(), before);
        is("errorAt behind the refused call", x.errorAt(), place);
    }

    /** A test of its own for a refused call. */
    void refused(String itsHead, TavernRumours x, Class<? extends RuntimeException> exception, LongSupplier call) {
        test(itsHead, () -> refuses(x, exception, call));
    }

    /** Tests of their own for a number of a call: from least to most is right, all others are refused. */
    void range(String itsHead, Supplier<TavernRumours> land, Class<? extends RuntimeException> exception, int least,
            int most, Call call) {
        for (int number : new int[] {least, most}) {
            test(itsHead + " may be " + number, () -> call.on(land.get(), number));
        }
        for (int number : new int[] {least - 1, most + 1, Integer.MIN_VALUE, Integer.MAX_VALUE}) {
            TavernRumours x = land.get();
            refused(itsHead + " may not be " + number, x, exception, () -> call.on(x, number));
        }
    }

    /** What a new object answers to a list, and where it has the error, -1 if none. */
    void taught(String list, int error, int place) {
        TavernRumours x = new TavernRumours();
        is("teach " + list, Due.teach(x, list), error);
        is("errorAt " + list, x.errorAt(), place);
        is("bytes behind " + list, x.count(14), 0);
    }

    /** A test of its own for a list that has no error. */
    void right(String itsHead, String list) {
        test(itsHead, () -> taught(list, 0, -1));
    }

    /** A test of its own for a list whose error is told where the list has a ?, which is left out. */
    void wrong(String itsHead, int error, String marked) {
        int place = marked.indexOf('?');
        test(itsHead, () -> taught(marked.substring(0, place) + marked.substring(place + 1), error, place));
    }

    static TavernRumours land(String list) {
        TavernRumours x = new TavernRumours();
        int error = Due.teach(x, list);
        if (error != 0) {
            throw new IllegalArgumentException("error " + error + " at " + x.errorAt() + ": " + list);
        }
        return x;
    }

    /** Whether a test holds in the first hour of a land. */
    static boolean holds(String list, String test) {
        return holdsIn(0, list, test);
    }

    /** Whether a test holds when the orders of an hour are given; a road of its own tells it. */
    static boolean holdsIn(int hour, String list, String test) {
        TavernRumours x = land(list + "tavern teller1;tavern teller2;road tell from teller1 to teller2 miles 1;"
                + "hurt tell by 1 when hour=" + hour + " and [" + test + "];");
        x.pass(hour + 1);
        return x.road(x.count(2) - 1, 3) == 1;
    }

    static String numbered(int n, String ahead, String behind) {
        StringBuilder text = new StringBuilder();
        for (int i = 0; i < n; i++) {
            text.append(ahead).append(i).append(behind);
        }
        return text.toString();
    }

    void end(String name) {
        System.out.print(heads.size() + " edges, ");
        due.end(name);
    }
}
