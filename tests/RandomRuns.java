import java.lang.reflect.Method;
import java.util.ArrayList;
import java.util.Arrays;
import java.util.Comparator;
import java.util.List;
import java.util.Random;

/**
 * Runs of calls at random (from fixed seeds) on CageLeave and on ModelPark: each answer, STATUS and
 * FRACTION must be the same. Arguments: how many runs, the first seed (300 and 1 without).
 */
public final class RandomRuns {
    private static final int MOST_CALLS = 512;
    private static final int[] EXTREMES = {Integer.MIN_VALUE, -2, -1, 64, 65, 301, 901, 1 << 30, Integer.MAX_VALUE};
    private static final String[] WORDS = ("odds place train from to at takes seats beast size trust out hunts ticket"
        + " hour monday buy let halt any when in eaten clock loop end stop ; ; ; < > = 0 1 3 16 17 24 25 63 64 65 99 100"
        + " 0007 00007 12345 abcdefgh abcdefghi x y ? A\t").split(" ");

    private final Random random;
    private final CageLeave real = new CageLeave();
    private final ModelPark model = new ModelPark();
    private final List<String> log = new ArrayList<>();
    private final List<Method> calls = new ArrayList<>();
    private final List<String> places = new ArrayList<>();
    private final List<String> trains = new ArrayList<>();
    private final List<String> beasts = new ArrayList<>();
    private int made = 1;
    private boolean wrong;

    private RandomRuns(long seed) {
        random = new Random(seed);
        for (Method m : CageLeave.class.getDeclaredMethods()) {
            if (java.lang.reflect.Modifier.isPublic(m.getModifiers())) { calls.add(m); }
        }
        calls.sort(Comparator.comparing(Method::getName));
    }

    public static void main(String[] args) {
        int runs = args.length > 0 ? Integer.parseInt(args[0]) : 300;
        int first = args.length > 1 ? Integer.parseInt(args[1]) : 1;
        int bad = 0;
        for (int i = 0; i < runs && bad < 5; i++) {
            RandomRuns run = new RandomRuns(first + i);
            run.go();
            if (run.wrong) {
                bad++;
                System.out.println("seed " + (first + i));
                run.log.subList(Math.max(0, run.log.size() - 40), run.log.size()).forEach(System.out::println);
            }
        }
        System.out.println((runs - bad) + " random runs are alike, " + bad + " are not");
        if (bad > 0) { System.exit(1); }
    }

    private int up(int n) { return random.nextInt(n); }

    private void go() {
        tellPark();
        while (made < MOST_CALLS && !wrong) {
            int what = up(100);
            if (what < 1) { tellPark(); }
            else if (what < 4) { tellWeeks(); }
            else if (what < 6) { tellThrees(); }
            else if (what < 20) { does(); }
            else {
                Method m = calls.get(up(calls.size()));
                if (!m.getName().equals("undo") && !m.getName().equals("mourn") || up(3) == 0) { call(m, arguments(m)); }
            }
        }
    }

    /** What moves a park on, oftener than by chance among all the calls. */
    private void does() {
        switch (up(6)) {
            case 0: call("let", up(8), true); break;
            case 1: call("ticket", up(8), up(8), true); break;
            case 2: case 3: call("hour", 1 + up(12)); break;
            case 4: call("monday"); break;
            default: call("hunt", up(8), up(8), up(2) == 0);
        }
    }

    private Object[] arguments(Method m) {
        Class<?>[] kinds = m.getParameterTypes();
        Object[] a = new Object[kinds.length];
        for (int i = 0; i < a.length; i++) {
            if (kinds[i] == boolean.class) { a[i] = up(2) == 0; }
            else if (kinds[i] == long.class) { a[i] = up(2) == 0 ? random.nextLong() : (long) up(70) - 3; }
            else { a[i] = number(m.getName(), i); }
        }
        return a;
    }

    private int number(String name, int i) {
        if (up(60) == 0) { return EXTREMES[up(EXTREMES.length)]; }
        if (up(30) == 0) { return -1; }
        boolean set = i == 0 && Arrays.asList("peace", "eatenBy", "back", "wildest", "rooms", "roomSize").contains(name);
        if (set) { return up(1 << Math.max(0, beasts.size() + (up(20) == 0 ? 1 : 0))); }
        switch (name + i) {
            case "told0": return up(12);
            case "train1": case "beast1": return up(8);
            case "hour0": return 1 + up(up(4) == 0 ? 65 : 9);
            case "shift1": case "where1": case "soonest1": case "soonestBy1": case "latest2": return up(66);
            case "trust1": case "rule0": return up(18);
            case "rooms1": return 1 + up(up(2) == 0 ? 12 : 74);
            case "roomSize1": case "back1": return up(10);
            case "tray1": return up(5);
            case "tray2": return up(63);
            case "sets1": case "sure1": case "slips1": return up(up(4) == 0 ? 22 : 6);
            case "sets2": case "sure2": return up(up(4) == 0 ? 22 : 4);
            case "write1": case "read1": return up(20);
            case "pour1": case "pour3": case "pour4": return up(12);
            case "live0": case "mean0": return up(12) == 0 ? 9980 + up(22) : up(10000);
            case "mean1": return up(22);
            case "park0": case "weeks0": return up(40);
            case "feed0": case "feed1": case "feed2": case "feed3": case "feed4": return random.nextInt();
            default:
                if (name.matches("there|soonest|soonestBy|latest|stay|cut|cutSet|snow")) { return up(places.size() + 1); }
                if (name.matches("tray|write|read|pour|sets|sure|slips|copyPlaces")) { return up(up(10) == 0 ? 5 : 4); }
                return up(up(8) == 0 ? 10 : Math.max(1, i == 0 && name.matches("train|halt|shift") ? trains.size() : beasts.size()));
        }
    }

    private Object call(String name, Object... a) {
        for (Method m : calls) { if (m.getName().equals(name)) { return call(m, a); } }
        throw new IllegalStateException(name);
    }

    private Object call(Method m, Object[] a) {
        if (made >= MOST_CALLS || wrong) { return null; }
        made++;
        Object x;
        Object y;
        try {
            x = m.invoke(real, a);
            y = ModelPark.class.getMethod(m.getName(), m.getParameterTypes()).invoke(model, a);
        } catch (ReflectiveOperationException e) {
            log.add(m.getName() + Arrays.toString(a) + " threw " + e.getCause());
            wrong = true;
            return null;
        }
        wrong = !x.equals(y) || real.status() != model.status() || real.top() != model.top()
            || real.bottom() != model.bottom();
        log.add(m.getName() + Arrays.toString(a) + " answered " + x + (wrong ? " (status " + real.status()
            + ", " + real.top() + " by " + real.bottom() + "), the model " + y + " (status " + model.status() + ", "
            + model.top() + " by " + model.bottom() + ")" : ""));
        return x;
    }

    // texts

    private void tellText(String call, String text) {
        log.add("text: " + text);
        byte[] b = text.getBytes(java.nio.charset.StandardCharsets.ISO_8859_1);
        for (int i = 0; i < b.length; i += 20) {
            int[] five = new int[5];
            for (int j = 0; j < 20; j++) { five[j / 4] |= (i + j < b.length ? b[i + j] & 255 : 0) << 8 * (3 - j % 4); }
            call("feed", five[0], five[1], five[2], five[3], five[4]);
        }
        call(call, b.length + (up(40) == 0 ? up(30) - 15 : 0));
        if (up(3) == 0) { call("fault", up(3)); }
        call("fault", 0);
        call("fault", 1);
    }

    private void emptyTape() { call("park", -1); call("weeks", 0); }

    private String newName() {
        while (true) {
            StringBuilder s = new StringBuilder();
            for (int n = up(10) == 0 ? 8 : 1 + up(2); n > 0; n--) { s.append((char) ('a' + up(26))); }
            String t = s.toString();
            if (!places.contains(t) && !trains.contains(t) && !beasts.contains(t) && !Arrays.asList(WORDS).contains(t)) { return t; }
        }
    }

    private String one(List<String> names) { return names.isEmpty() ? "none" : names.get(up(names.size())); }

    private void tellPark() {
        if (up(2) == 0) { emptyTape(); }
        places.clear();
        trains.clear();
        beasts.clear();
        StringBuilder s = new StringBuilder();
        if (up(2) == 0) { s.append("odds ").append(up(17)).append(';'); }
        for (int i = up(12) == 0 ? up(8) : 2 + up(5); i > 0; i--) { places.add(newName()); s.append("place ").append(places.get(places.size() - 1)).append(';'); }
        boolean busy = up(2) == 0;
        for (int i = up(12) == 0 ? up(10) : 3 + up(6); i > 0 && places.size() > 1; i--) {
            String name = newName();
            int from = up(3) == 0 ? 0 : up(places.size());
            int to = (from + 1 + up(places.size() - 1)) % places.size();
            if (up(3) == 0 && from != 0) { to = 0; }
            s.append("train ").append(name).append(" from ").append(places.get(from)).append(" to ").append(places.get(to));
            s.append(" at ").append(up(busy ? 30 : 64)).append(" takes ").append(1 + up(busy ? 6 : 24));
            if (up(3) == 0) { s.append(" seats ").append(1 + up(9)); }
            if (up(4) == 0) { s.append(" seats 1".substring(0, s.toString().contains("seats") ? 0 : 8)); }
            s.append(up(6) == 0 ? " ;\n" : ";");
            trains.add(name);
        }
        for (int i = up(12) == 0 ? up(10) : up(7); i > 0; i--) {
            String name = newName();
            s.append("beast ").append(name);
            if (up(2) == 0) { s.append(" size ").append(1 + up(9)); }
            if (up(2) == 0) { s.append(" trust ").append(up(17)); }
            if (up(3) != 0) { s.append(" out"); }
            s.append(';');
            beasts.add(name);
        }
        for (int i = up(8); i > 0 && beasts.size() > 1; i--) { s.append("hunts ").append(one(beasts)).append(' ').append(one(beasts)).append(';'); }
        for (String b : beasts) {
            if (up(5) == 0) { continue; }
            s.append("ticket ").append(b);
            for (String t : trains) { if (up(3) != 0) { s.append(' ').append(t); } }
            s.append(';');
        }
        tellText("park", cutOff(spoilt(mended(s.toString()), 6), 890));
    }

    /** Takes hunts out that would be faults, most of the time, so that parks come to be. */
    private String mended(String text) {
        if (up(10) == 0) { return text; }
        List<String> parts = new ArrayList<>();
        for (String part : text.split(";")) {
            String[] w = part.trim().split(" ");
            boolean self = w[0].equals("hunts") && w[1].equals(w[2]);
            if (!self && (!w[0].equals("hunts") || !parts.contains(part))) { parts.add(part); }
        }
        return parts.isEmpty() ? "" : String.join(";", parts) + ";";
    }

    private String cutOff(String text, int most) { return text.length() <= most ? text : text.substring(0, most); }

    private String spoilt(String text, int seldom) {
        if (up(seldom) != 0 || text.isEmpty()) { return text; }
        int i = up(text.length());
        int j = Math.min(text.length(), i + up(4));
        switch (up(5)) {
            case 0: return text.substring(0, i) + text.substring(j);
            case 1: return text.substring(0, i) + (char) (up(3) == 0 ? up(256) : 32 + up(96)) + text.substring(i);
            case 2: return text.substring(0, i);
            default:
                i = text.indexOf(' ', i);
                if (i < 0) { return text; }
                j = text.indexOf(' ', i + 1);
                String word = up(3) == 0 ? one(up(2) == 0 ? beasts : trains) : WORDS[up(WORDS.length)];
                return text.substring(0, i + 1) + word + (j < 0 ? "" : text.substring(up(2) == 0 ? j : i));
        }
    }

    private void tellWeeks() {
        if (up(2) == 0) { emptyTape(); }
        StringBuilder s = new StringBuilder();
        steps(s, 0, 1 + up(8));
        tellText("weeks", cutOff(spoilt(s.toString(), 6), 320));
        if (up(3) != 0) { call("mean", up(9000), 1 + up(5)); }
        if (up(3) != 0) {
            call("live", up(10000));
            for (int i = 0; i < 5; i++) { call("lived", i); }
        }
    }

    private void steps(StringBuilder s, int depth, int many) {
        for (int i = 0; i < many; i++) {
            switch (up(12)) {
                case 0: case 1: s.append("hour ").append(1 + up(up(4) == 0 ? 65 : 16)).append(';'); break;
                case 2: case 3: s.append("hour 64;monday;"); break;
                case 4: s.append("buy ").append(one(beasts)).append(' ').append(one(trains)).append(';'); break;
                case 5: s.append("let ").append(one(beasts)).append(';'); break;
                case 6: s.append("halt ").append(one(trains)).append(';'); break;
                case 7: s.append("any;"); break;
                case 8: if (up(5) == 0) { s.append("stop;"); } break;
                case 9: case 10:
                    if (depth > up(5)) { break; }
                    s.append("when ").append(up(2) == 0 ? "clock " + "<>=".charAt(up(3)) + " " + up(66)
                        : up(2) == 0 ? "eaten " + one(beasts) : "in " + one(beasts) + " " + one(places)).append(';');
                    steps(s, depth + 1, up(4));
                    s.append("end;");
                    break;
                default:
                    if (depth > up(5)) { break; }
                    s.append("loop ").append(1 + up(up(3) == 0 ? 100 : 9)).append(';');
                    steps(s, depth + 1, up(4));
                    s.append("end;");
            }
        }
    }

    private void tellThrees() {
        int n = up(8);
        int tray = up(4);
        call("tray", tray, up(4), 3 * n + up(3));
        for (int i = 0; i < n && !places.isEmpty() && !beasts.isEmpty(); i++) {
            call("write", tray, 3 * i, (long) up(66));
            call("write", tray, 3 * i + 1, (long) (up(30) == 0 ? 0 : 1 + up(places.size())));
            call("write", tray, 3 * i + 2, (long) up(beasts.size() + (up(30) == 0 ? 1 : 0)));
        }
        for (int i = 0; i < 3; i++) { call("sets", tray, n, up(n + 1)); call("sure", tray, n, up(n + 1)); call("slips", tray, n); }
    }
}
