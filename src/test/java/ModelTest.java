import java.util.Random;
import java.util.function.LongSupplier;

/** Runs of calls by chance, each answer compared with that of the slow model. */
public final class ModelTest {
    private static final long IOOBE = Long.MIN_VALUE + 1;
    private static final long IAE = Long.MIN_VALUE + 2;
    private static final long ISE = Long.MIN_VALUE + 3;

    private final Random random;
    private final Lists lists;
    private final TavernRumours x = new TavernRumours();
    private final Model m = new Model();
    private final StringBuilder calls = new StringBuilder();
    private final int run;

    private ModelTest(int run) {
        this.run = run;
        random = new Random(run);
        lists = new Lists(random);
    }

    public static void main(String[] args) {
        int from = args.length > 0 ? Integer.parseInt(args[0]) : 0;
        int runs = args.length > 1 ? Integer.parseInt(args[1]) : 400;
        for (int run = from; run < from + runs; run++) {
            new ModelTest(run).go();
        }
        System.out.println("ModelTest: " + runs + " runs as the model has them");
    }

    private void go() {
        for (int i = 0; i < 150; i++) {
            if (i % 40 == 0 || random.nextInt(40) == 0) {
                learn();
            } else {
                oneCall();
            }
        }
        same("digest", x::digest, m.digest());
    }

    private static long answer(LongSupplier call) {
        try {
            return call.getAsLong();
        } catch (IndexOutOfBoundsException e) {
            return e.getClass() == IndexOutOfBoundsException.class ? IOOBE : 0xdead;
        } catch (IllegalArgumentException e) {
            return IAE;
        } catch (IllegalStateException e) {
            return ISE;
        }
    }

    private void same(String call, LongSupplier got, long due) {
        calls.append(call).append('\n');
        long answer = answer(got);
        if (answer != due) {
            System.out.println(calls);
            System.out.println("run " + run + ": " + call + " answered " + answer + ", the model has " + due);
            System.exit(1);
        }
    }

    private void learn() {
        String text = random.nextInt(12) == 0 ? lists.nonsense() : lists.make(m.hour);
        if (m.tape.length() + text.length() > 1980) {
            return;
        }
        Due.write(x, text);
        m.tape.append(text);
        int due = m.teach();
        same("teach " + text, x::teach, due);
        same("errorAt", x::errorAt, m.error);
        same("tape", () -> x.count(14), 0);
        same("digest", x::digest, m.digest());
    }

    /** Mostly a number that is right, at times one just beside, at times any. */
    private int number(int below) {
        int which = random.nextInt(24);
        if (which == 0) {
            return below;
        }
        if (which == 1) {
            return -1;
        }
        return which == 2 ? random.nextInt() : random.nextInt(Math.max(1, below));
    }

    private static boolean in(int number, int below) {
        return number >= 0 && number < below;
    }

    private void oneCall() {
        int which = random.nextInt(26);
        if (which < 10) {
            ask(which);
        } else if (which < 19) {
            change(which);
        } else {
            wonder(which);
        }
    }

    private void ask(int which) {
        int t = number(m.taverns.size());
        int u = number(m.taverns.size());
        int r = number(m.roads.size());
        int s = number(m.rumours.size());
        boolean isT = in(t, m.taverns.size());
        boolean isR = in(r, m.roads.size());
        boolean isS = in(s, m.rumours.size());
        boolean two = isT && in(u, m.taverns.size());
        int what = number(which == 0 ? 15 : which == 2 ? 9 : 4);
        switch (which) {
            case 0:
                same("count " + what, () -> x.count(what), in(what, 15) ? m.count(what) : IOOBE);
                break;
            case 1:
                same("tavern " + t + " " + what, () -> x.tavern(t, what),
                        isT && in(what, 4) ? m.tavern(t, what) : IOOBE);
                break;
            case 2:
                same("road " + r + " " + what, () -> x.road(r, what), isR && in(what, 9) ? m.road(r, what) : IOOBE);
                break;
            case 3:
                same("rumour " + s + " " + what, () -> x.rumour(s, what),
                        isS && in(what, 4) ? m.rumour(s, what) : IOOBE);
                break;
            case 4:
                same("since " + t + " " + s, () -> x.since(t, s),
                        isT && isS ? m.since.getOrDefault(t * 10 + s, -1) : IOOBE);
                break;
            case 5:
                same("far " + t + " " + u, () -> x.far(t, u), two ? m.ways(-1)[t][u] : IOOBE);
                break;
            case 6:
                same("step " + t + " " + u, () -> x.step(t, u), two ? m.step(t, u) : IOOBE);
                break;
            case 7:
                same("detour " + r, () -> x.detour(r), isR ? m.detour(r) : IOOBE);
                break;
            case 8:
                same("replace " + r, () -> x.replace(r), isR ? m.replace(r) : IOOBE);
                break;
            default:
                same("mean", () -> Double.doubleToLongBits(x.mean()), Double.doubleToLongBits(m.mean()));
                break;
        }
    }

    private void change(int which) {
        int t = number(m.taverns.size());
        int r = number(m.roads.size());
        int s = number(m.rumours.size());
        boolean isR = in(r, m.roads.size());
        switch (which) {
            case 10:
            case 11:
                hurt(r, isR, number(3) + 1);
                break;
            case 12:
            case 13:
                same("mend " + r, () -> x.mend(r), !isR ? IOOBE : m.wounds[r] == 0 ? ISE : --m.wounds[r]);
                break;
            case 14:
                boolean both = in(t, m.taverns.size()) && in(s, m.rumours.size());
                same("tell " + t + " " + s, () -> x.tell(t, s), !both ? IOOBE : m.hear(t, s) ? m.knowers(s) : ISE);
                break;
            case 15:
                setMiles(r, isR, number(30) + 1);
                break;
            case 16:
                feed();
                break;
            default:
                int hours = number(random.nextInt(8) == 0 ? 100 : 5) + 1;
                same("pass " + hours, () -> x.pass(hours), in(hours - 1, 100) ? m.pass(hours) : IAE);
                break;
        }
        same("digest", x::digest, m.digest());
    }

    private void hurt(int r, boolean isR, int by) {
        boolean good = in(by - 1, 3);
        same("hurt " + r + " " + by, () -> x.hurt(r, by),
                !isR ? IOOBE : !good ? IAE : (m.wounds[r] = Math.min(3, m.wounds[r] + by)));
    }

    private void setMiles(int r, boolean isR, int miles) {
        boolean good = in(miles - 1, 30);
        same("setMiles " + r + " " + miles, () -> x.setMiles(r, miles), !isR ? IOOBE : !good ? IAE : m.miles[r]);
        if (isR && good) {
            m.miles[r] = miles;
        }
    }

    private void feed() {
        int length = m.tape.length();
        if (random.nextInt(2) == 0) {
            int n = number(length + 1);
            same("trim " + n, () -> x.trim(n), in(n, length + 1) ? n : IAE);
            if (in(n, length + 1)) {
                m.tape.setLength(n);
            }
        } else if (length < 1800) {
            int a = random.nextInt();
            same("feed " + a, () -> x.feed(a, a, a, a, a), length + 20);
            for (int i = 0; i < 20; i++) {
                m.tape.append((char) (a >>> 24 - i % 4 * 8 & 255));
            }
            same("trim " + length, () -> x.trim(length), length);
            m.tape.setLength(length);
        }
    }

    private void wonder(int which) {
        int s = number(m.rumours.size());
        boolean isS = in(s, m.rumours.size());
        switch (which) {
            case 19:
                same("until " + s, () -> x.until(s), isS ? m.until(s) : IOOBE);
                break;
            case 20:
            case 21:
            case 22:
                int hours = number(random.nextInt(6) == 0 ? 100 : 20) + 1;
                int what = number(9) + 5;
                same("foresee " + hours + " " + what, () -> x.foresee(hours, what),
                        !in(hours - 1, 100) ? IAE : !in(what - 5, 9) ? IOOBE : m.foresee(hours, what));
                break;
            case 23:
                int behind = number(random.nextInt(4) == 0 ? 60 : 12) + 1;
                same("advise " + s + " " + behind, () -> x.advise(s, behind),
                        !isS ? IOOBE : !in(behind - 1, 60) ? IAE : m.advise(s, behind));
                break;
            default:
                same("best", x::best, m.best());
                break;
        }
    }
}
