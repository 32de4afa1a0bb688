import com.sun.management.ThreadMXBean;
import java.lang.management.ManagementFactory;

/** An object's 512 calls: the last one answers as the first one does, and all go through in little room. */
public final class RoomTest {
    private static final Edges E = new Edges();
    private static final ThreadMXBean MEMORY = (ThreadMXBean) ManagementFactory.getThreadMXBean();
    private static final int CALLS = 512;
    /** The room has 7.3 million fields and elements; a run may need a tenth of it. */
    private static final long MOST_BYTES = 700_000;

    private RoomTest() {
    }

    public static void main(String[] args) {
        lastCall();
        room();
        E.end("RoomTest");
    }

    /** As many taverns, roads, rumours, orders and tokens as there may be; orders change roads in many hours. */
    private static String fullList() {
        StringBuilder list = new StringBuilder(Edges.numbered(10, "tavern t", ";"));
        for (int i = 0; i < 14; i++) {
            list.append("road r").append(i).append(" from t").append(i % 10).append(" to t")
                    .append((i + (i < 10 ? 1 : 3)) % 10).append(" miles ").append(1 + i % 4).append(";");
        }
        for (int i = 0; i < 6; i++) {
            list.append("rumour s").append(i).append(" at t").append(i).append(" on ").append(16 * i).append(";");
        }
        for (int i = 0; i < 7; i++) {
            list.append("hurt r").append(i).append(" by hour when far t0 t9>3;");
            list.append("mend r").append(i).append(" when hour/3*3=hour;");
        }
        for (int i = 0; i < 6; i++) {
            list.append("hush t").append(i).append(" when heard s").append(i).append("=2;");
        }
        return list.toString();
    }

    private static void lastCall() {
        E.test("Terms, calls: the 512th answers as due, behind many that change nothing", () -> {
            TavernRumours x = Edges.land(fullList());
            TavernRumours same = Edges.land(fullList());
            x.pass(20);
            same.pass(20);
            // to put the list on the tape took a count and a trim beside the feeds; then came teach and pass
            int made = (fullList().length() + 19) / 20 + 4;
            for (int call = made; call < CALLS - 2; call++) {
                ask(x, call);
            }
            E.is("pass", x.pass(100), same.pass(100));
            E.is("digest", x.digest(), same.digest());
        });
        E.test("Terms, calls: 511 times a hundred hours", () -> {
            TavernRumours x = new TavernRumours();
            for (int call = 1; call < CALLS; call++) {
                x.pass(100);
            }
            E.is("hour", x.count(0), 51100);
        });
        E.test("Terms, calls: 512 times feed and teach", () -> {
            TavernRumours x = new TavernRumours();
            for (int call = 2; call <= CALLS; call += 2) {
                // "tavern a;tavern bcd;"
                E.is("feed", x.feed(0x74617665, 0x726e2061, 0x3b746176, 0x65726e20, 0x6263643b), 20);
                E.is("teach", x.teach(), 0);
            }
        });
    }

    private static void ask(TavernRumours x, int call) {
        switch (call % 5) {
            case 0:
                x.advise(call % 6, 60);
                break;
            case 1:
                x.until(call % 6);
                break;
            case 2:
                x.foresee(100, 5 + call % 9);
                break;
            case 3:
                x.best();
                break;
            default:
                x.digest();
                break;
        }
    }

    private static void needs(String head, Runnable run) {
        E.test("Terms, room: " + head, () -> {
            run.run();
            long before = MEMORY.getCurrentThreadAllocatedBytes();
            run.run();
            long bytes = MEMORY.getCurrentThreadAllocatedBytes() - before;
            E.is("little room, not " + bytes + " bytes", bytes < MOST_BYTES ? 1 : 0, 1);
        });
    }

    private static void room() {
        needs("an object", TavernRumours::new);
        TavernRumours x = Edges.land(fullList());
        x.pass(5);
        needs("512 times what changes nothing, of the largest land", () -> {
            for (int call = 0; call < CALLS; call++) {
                ask(x, call);
            }
        });
        needs("512 times advise, of the largest land", () -> {
            for (int call = 0; call < CALLS; call++) {
                x.advise(5, 60);
            }
        });
        needs("512 times pass, of the largest land", () -> {
            for (int call = 0; call < CALLS; call++) {
                x.pass(100);
            }
        });
        needs("512 times feed, trim and teach", () -> {
            TavernRumours y = new TavernRumours();
            for (int call = 0; call < CALLS; call += 2) {
                y.feed(0x74617665, 0x726e2061, 0x3b746176, 0x65726e20, 0x6263643b);
                y.trim(20 - call % 3);
                y.teach();
            }
        });
        needs("512 refused calls", () -> {
            for (int call = 0; call < CALLS; call++) {
                refused(x);
            }
        });
    }

    private static void refused(TavernRumours x) {
        try {
            x.advise(6, 61);
            E.is("refused", 0, 1);
        } catch (IndexOutOfBoundsException due) {
            return;
        }
    }
}
