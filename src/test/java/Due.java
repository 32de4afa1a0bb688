import java.util.function.DoubleSupplier;
import java.util.function.LongSupplier;

/** Compares answers with those that are due, and ends a test with exit code 1 if one was wrong. */
final class Due {
    private int wrong = 0;
    private int asked = 0;

    void is(String call, LongSupplier answer, long due) {
        asked++;
        long got;
        try {
            got = answer.getAsLong();
        } catch (RuntimeException thrown) {
            tell(call + " threw " + thrown + ", due is " + due);
            return;
        }
        if (got != due) {
            tell(call + " answered " + got + ", due is " + due);
        }
    }

    void isDouble(String call, DoubleSupplier answer, double due) {
        asked++;
        double got = answer.getAsDouble();
        if (got != due) {
            tell(call + " answered " + got + ", due is " + due);
        }
    }

    void throwsIt(String call, LongSupplier answer, Class<? extends RuntimeException> due) {
        asked++;
        long got;
        try {
            got = answer.getAsLong();
        } catch (RuntimeException thrown) {
            if (thrown.getClass() != due) {
                tell(call + " threw " + thrown + ", due is " + due.getName());
            }
            return;
        }
        tell(call + " answered " + got + ", due is " + due.getName());
    }

    void tell(String fault) {
        wrong++;
        System.out.println(fault);
    }

    boolean hasFault() {
        return wrong > 0;
    }

    /** Puts a text on the tape: feed() takes twenty bytes, so the last ones are trimmed again. */
    static void write(TavernRumours x, String text) {
        int start = x.count(14);
        int[] row = new int[5];
        for (int from = 0; from < text.length(); from += 20) {
            for (int i = 0; i < 5; i++) {
                row[i] = 0;
                for (int place = from + 4 * i; place < from + 4 * i + 4; place++) {
                    row[i] = row[i] << 8 | (place < text.length() ? text.charAt(place) & 255 : ' ');
                }
            }
            x.feed(row[0], row[1], row[2], row[3], row[4]);
        }
        x.trim(start + text.length());
    }

    static int teach(TavernRumours x, String text) {
        write(x, text);
        return x.teach();
    }

    void end(String name) {
        System.out.println(name + ": " + asked + " answers, " + wrong + " wrong");
        if (wrong > 0) {
            System.exit(1);
        }
    }
}
