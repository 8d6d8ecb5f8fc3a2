import java.nio.charset.StandardCharsets;
import java.util.List;

/** What the tests share: parks and weeks as texts, and answers that are due. */
final class Kit {
    static final String ZOO = "odds 4;place z;place s;place h;train a from z to s at 2 takes 3;"
        + "train b from z to h at 4 takes 2 seats 1;train c from h to s at 7 takes 5;"
        + "train d from s to z at 20 takes 10;train e from h to z at 60 takes 4;"
        + "beast l size 5 trust 8 out;beast g size 2 trust 12 out;beast t trust 16;"
        + "hunts l g;ticket l a d;ticket g b c;ticket t b e;";

    /** Two ways to s, one to r and back; o can't be left; r to s arrives too late. */
    static final String NET = "odds 8;place z;place s;place r;place o;train a from z to s at 5 takes 5;"
        + "train b from z to r at 2 takes 2;train c from r to z at 4 takes 1;train d from z to s at 5 takes 5;"
        + "train e from s to o at 10 takes 24;train f from s to z at 40 takes 24;train g from r to s at 63 takes 2;"
        + "train h from r to z at 63 takes 1;";

    private static int wrong = 0;
    private static int asked = 0;
    private static String promise = "";

    static { watch(); }

    private Kit() { }

    /** A call that never ends would keep the tests waiting for ever: after five minutes they fail. */
    private static void watch() {
        Thread watcher = new Thread(() -> {
            try {
                Thread.sleep(300_000);
            } catch (InterruptedException e) {
                return;
            }
            System.out.println(promise + ": did not end");
            Runtime.getRuntime().halt(1);
        });
        watcher.setDaemon(true);
        watcher.start();
    }

    static void promise(String name) { promise = name; }

    static void due(long got, long want) {
        asked++;
        if (got != want) {
            wrong++;
            StackTraceElement[] trace = new Throwable().getStackTrace();
            int i = 1;
            while (i + 1 < trace.length && trace[i].getClassName().equals("Kit")) { i++; }
            System.out.println(promise + " (" + trace[i] + "): answered " + got + ", due is " + want);
        }
    }

    static void fail(String why) {
        asked++;
        wrong++;
        System.out.println(promise + ": " + why);
    }

    /** What two objects tell: the first row that is not alike is a wrong answer. */
    static void same(List<String> got, List<String> want) {
        asked++;
        for (int i = 0; i < Math.max(got.size(), want.size()); i++) {
            String a = i < got.size() ? got.get(i) : "nothing";
            String b = i < want.size() ? want.get(i) : "nothing";
            if (!a.equals(b)) {
                fail("changed: " + a + ", due is " + b);
                return;
            }
        }
    }

    static void due(boolean got, boolean want) { due(got ? 1 : 0, want ? 1 : 0); }

    /** NONE with a STATUS. */
    static void none(CageLeave x, long got, int status) {
        due(got, -1);
        due(x.status(), status);
    }

    /** false with a STATUS. */
    static void not(CageLeave x, boolean got, int status) {
        due(got, false);
        due(x.status(), status);
    }

    /** An answer with STATUS 0. */
    static void is(CageLeave x, long got, long want) {
        due(got, want);
        due(x.status(), 0);
    }

    static void yes(CageLeave x, boolean got) {
        due(got, true);
        due(x.status(), 0);
    }

    static void fraction(CageLeave x, boolean got, long top, long bottom) {
        yes(x, got);
        due(x.top(), top);
        due(x.bottom(), bottom);
    }

    /** Feeds a text (it must find an empty tape): how many bytes it has. */
    static int feed(CageLeave x, String text) {
        byte[] b = text.getBytes(StandardCharsets.ISO_8859_1);
        for (int i = 0; i < b.length; i += 20) {
            int[] five = new int[5];
            for (int j = 0; j < 20; j++) {
                five[j / 4] |= (i + j < b.length ? b[i + j] & 255 : ' ') << 8 * (3 - j % 4);
            }
            x.feed(five[0], five[1], five[2], five[3], five[4]);
        }
        return b.length;
    }

    static int tellPark(CageLeave x, String text) { return x.park(feed(x, text)); }

    static int tellWeeks(CageLeave x, String text) { return x.weeks(feed(x, text)); }

    static CageLeave park(String text) {
        CageLeave x = new CageLeave();
        tellPark(x, text);
        due(x.status(), 0);
        return x;
    }

    static CageLeave weeks(String park, String weeks) {
        CageLeave x = park(park);
        tellWeeks(x, weeks);
        due(x.status(), 0);
        return x;
    }

    /** A text that is no PARK. */
    static void parkFault(String text, int kind, int place) {
        CageLeave x = new CageLeave();
        none(x, tellPark(x, text), 9);
        due(x.fault(0), kind);
        due(x.fault(1), place);
        due(x.told(0) + x.told(1) + x.told(2), 0);
    }

    /** A text that is no WEEKS of the ZOO. */
    static void weeksFault(String text, int kind, int place) {
        CageLeave x = park(ZOO);
        none(x, tellWeeks(x, text), 9);
        due(x.fault(0), kind);
        due(x.fault(1), place);
        none(x, x.live(0), 6);
    }

    static void end(String name) {
        System.out.println(name + ": " + asked + " answers, " + wrong + " not as due");
        if (wrong > 0) { System.exit(1); }
    }
}
