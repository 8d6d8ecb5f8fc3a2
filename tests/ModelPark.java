import java.math.BigInteger;
import java.util.ArrayList;
import java.util.Arrays;
import java.util.Collections;
import java.util.HashMap;
import java.util.List;
import java.util.Map;
import java.util.TreeSet;

/**
 * The document told a second time, in another way and with no thought of speed: ways are searched
 * through, texts read by throwing, hours gone one by one. RandomRuns holds CageLeave against it.
 */
public final class ModelPark {
    private static final String RESERVED = " odds place train from to at takes seats beast size trust out hunts"
        + " ticket hour monday buy let halt any when in eaten clock loop end stop ";

    private static final class Fault extends RuntimeException {
        final int kind;
        final int place;
        Fault(int kind, int place) { super(null, null, false, false); this.kind = kind; this.place = place; }
    }

    private static final class Token {
        final String s;
        final int place;
        final char kind; // w word, n number, s sign, e end, x none
        Token(String s, int place, char kind) { this.s = s; this.place = place; this.kind = kind; }
        boolean isName() { return kind == 'w' && s.length() <= 8 && !RESERVED.contains(" " + s + " "); }
    }

    private static final class Train { String name; int from, to, at, takes, seats = 9; boolean halted; int left = -1; }

    private static final class Beast {
        String name; int size = 1, trust = 8, late, spot; boolean out, eaten; int by = -1, when = -1;
        TreeSet<Integer> tickets = new TreeSet<>();
        TreeSet<Integer> hunts = new TreeSet<>();
    }

    private static final class Step { String word; int a, b; String sign; List<Step> body = new ArrayList<>(); }

    private static final class Park {
        int odds = 2, week, hour;
        List<String> places = new ArrayList<>();
        List<Train> trains = new ArrayList<>();
        List<Beast> beasts = new ArrayList<>();
        List<Step> weeks;

        Park copy() {
            Park p = new Park();
            p.odds = odds; p.week = week; p.hour = hour; p.weeks = weeks;
            p.places.addAll(places);
            for (Train t : trains) {
                Train u = new Train();
                u.name = t.name; u.from = t.from; u.to = t.to; u.at = t.at; u.takes = t.takes; u.seats = t.seats;
                u.halted = t.halted; u.left = t.left;
                p.trains.add(u);
            }
            for (Beast t : beasts) {
                Beast u = new Beast();
                u.name = t.name; u.size = t.size; u.trust = t.trust; u.late = t.late; u.spot = t.spot; u.out = t.out;
                u.eaten = t.eaten; u.by = t.by; u.when = t.when;
                u.tickets.addAll(t.tickets); u.hunts.addAll(t.hunts);
                p.beasts.add(u);
            }
            return p;
        }

        void arrive() {
            for (Beast b : beasts) {
                if (!b.eaten && b.spot >= 10) {
                    Train t = trains.get(b.spot - 10);
                    if (t.left + t.takes == hour) { b.spot = t.to; }
                }
            }
        }

        TreeSet<Integer> pass() {
            TreeSet<Integer> gone = new TreeSet<>();
            arrive();
            for (int k = 0; k < trains.size(); k++) {
                Train t = trains.get(k);
                if (t.at != hour || t.halted) { continue; }
                int free = t.seats;
                for (Beast b : beasts) {
                    if (free > 0 && !b.eaten && b.spot == t.from && b.tickets.contains(k) && (t.from != 0 || b.out)) {
                        b.spot = 10 + k; t.left = hour; free--;
                    }
                }
            }
            for (int i = 0; i < beasts.size(); i++) {
                Beast b = beasts.get(i);
                for (int j = 0; j < beasts.size() && !b.eaten; j++) {
                    Beast h = beasts.get(j);
                    if (j != i && !h.eaten && h.hunts.contains(i) && b.spot != 0 && b.spot == h.spot) {
                        b.eaten = true; b.by = j; b.when = hour; gone.add(i);
                    }
                }
            }
            hour++;
            return gone;
        }

        TreeSet<Integer> passTo(int end) {
            TreeSet<Integer> gone = new TreeSet<>();
            while (hour < end) { gone.addAll(pass()); }
            return gone;
        }

        TreeSet<Integer> fetch() {
            TreeSet<Integer> set = new TreeSet<>();
            arrive();
            for (int i = 0; i < beasts.size(); i++) {
                Beast b = beasts.get(i);
                if (!b.eaten && b.spot != 0) { set.add(i); b.late++; b.spot = 0; }
            }
            week++; hour = 0;
            return set;
        }

        Park letOut(int set) {
            Park p = copy();
            p.hour = 0;
            for (int i = 0; i < p.beasts.size(); i++) {
                Beast b = p.beasts.get(i);
                b.spot = 0;
                b.out = (set >> i & 1) == 1;
            }
            return p;
        }

        int eatenSet() { int s = 0; for (int i = 0; i < beasts.size(); i++) { if (beasts.get(i).eaten) { s |= 1 << i; } } return s; }
        boolean together(int a, int b) {
            Beast x = beasts.get(a), y = beasts.get(b);
            return !x.eaten && !y.eaten && x.spot == y.spot && x.spot != 0;
        }
    }

    private Park p = new Park();
    private final List<Park> marks = new ArrayList<>();
    private int status;
    private BigInteger top = BigInteger.ZERO, bottom = BigInteger.ONE;
    private final long[][] trays = new long[4][];
    private final int[] sorts = new int[4];
    private byte[] tape = new byte[0];
    private int fault = -1, faultAt = -1;
    private int[] lived;

    public int status() { return status; }
    public long top() { return top.longValueExact(); }
    public long bottom() { return bottom.longValueExact(); }

    private int no(int s) { status = s; return -1; }
    private boolean not(int s) { status = s; return false; }
    private int ok(int v) { status = 0; return v; }
    private boolean ok() { status = 0; return true; }
    private static int bits(Iterable<Integer> set) { int s = 0; for (int i : set) { s |= 1 << i; } return s; }
    private static boolean within(long v, long a, long b) { return a <= v && v <= b; }
    private boolean isBeast(int b) { return within(b, 0, p.beasts.size() - 1); }
    private boolean isTrain(int b) { return within(b, 0, p.trains.size() - 1); }
    private boolean isPlace(int b) { return within(b, 0, p.places.size() - 1); }
    private boolean isSet(int s) { return within(s, 0, (1 << p.beasts.size()) - 1); }
    private Beast beastOf(int b) { return p.beasts.get(b); }
    private void fraction(BigInteger a, BigInteger b) { BigInteger g = a.gcd(b); top = a.divide(g); bottom = b.divide(g); }

    // trays

    public boolean tray(int t, int sort, int many) {
        if (!within(t, 0, 3) || !within(sort, 0, 3) || !within(many, 0, 60)) { return not(1); }
        trays[t] = new long[many]; sorts[t] = sort;
        return ok();
    }
    private int trayStatus(int t, int place) {
        if (!within(t, 0, 3)) { return 1; }
        if (trays[t] == null) { return 2; }
        return within(place, 0, trays[t].length - 1) ? 0 : 3;
    }
    private static long cutTo(int sort, long v) { int gone = 64 - (8 << sort); return v << gone >> gone; }
    public boolean write(int t, int place, long v) {
        int s = trayStatus(t, place);
        if (s != 0) { return not(s); }
        trays[t][place] = cutTo(sorts[t], v);
        return ok();
    }
    public long read(int t, int place) {
        int s = trayStatus(t, place);
        if (s != 0) { return no(s); }
        status = 0;
        return trays[t][place];
    }
    public boolean pour(int from, int place, int to, int at, int many) {
        if (!within(from, 0, 3) || !within(to, 0, 3) || place < 0 || at < 0 || many < 0) { return not(1); }
        if (trays[from] == null || trays[to] == null) { return not(2); }
        if (sorts[from] != sorts[to]) { return not(8); }
        if (0L + place + many > trays[from].length || 0L + at + many > trays[to].length) { return not(3); }
        long[] old = trays[from].clone();
        for (int i = 0; i < many; i++) { trays[to][at + i] = old[place + i]; }
        return ok();
    }

    // texts

    public int feed(int a, int b, int c, int d, int e) {
        if (tape.length + 20 > 900) { return -1; }
        byte[] more = Arrays.copyOf(tape, tape.length + 20);
        int[] five = {a, b, c, d, e};
        for (int i = 0; i < 20; i++) { more[tape.length + i] = (byte) (five[i / 4] >>> 8 * (3 - i % 4)); }
        tape = more;
        return tape.length;
    }

    private List<Token> tokens;
    private int at;

    private void split(int n) {
        tokens = new ArrayList<>();
        at = 0;
        int i = 0;
        while (i < n) {
            char c = (char) (tape[i] & 255);
            int j = i + 1;
            if (c == 10 || c == 32) { i++; continue; }
            if (";<>=".indexOf(c) >= 0) {
                tokens.add(new Token("" + c, i, 's'));
            } else if (c >= 'a' && c <= 'z') {
                while (j < n && tape[j] >= 'a' && tape[j] <= 'z') { j++; }
                tokens.add(new Token(new String(tape, i, j - i), i, 'w'));
            } else if (c >= '0' && c <= '9') {
                while (j < n && tape[j] >= '0' && tape[j] <= '9') { j++; }
                tokens.add(new Token(j - i > 4 ? "" : new String(tape, i, j - i), i, j - i > 4 ? 'x' : 'n'));
            } else {
                tokens.add(new Token("", i, 'x'));
            }
            i = j;
        }
        tokens.add(new Token("", n, 'e'));
    }
    private Token look() {
        Token t = tokens.get(at);
        if (t.kind == 'x') { throw new Fault(1, t.place); }
        return t;
    }
    private Token next() { Token t = look(); at++; return t; }
    private boolean comes(String s) { Token t = look(); return t.kind != 'e' && t.s.equals(s); }
    private void need(String s) { if (!comes(s)) { throw new Fault(2, look().place); } at++; }
    private int number(int a, int b) {
        Token t = next();
        if (t.kind != 'n') { throw new Fault(2, t.place); }
        int v = Integer.parseInt(t.s);
        if (v < a || v > b) { throw new Fault(4, t.place); }
        return v;
    }
    private Token nameToken() {
        Token t = next();
        if (!t.isName()) { throw new Fault(2, t.place); }
        return t;
    }
    private int oldName(Park q, char what) {
        Token t = nameToken();
        int found = -1;
        if (what == 'p') { found = q.places.indexOf(t.s); }
        for (int i = 0; what == 't' && i < q.trains.size(); i++) { if (q.trains.get(i).name.equals(t.s)) { found = i; } }
        for (int i = 0; what == 'b' && i < q.beasts.size(); i++) { if (q.beasts.get(i).name.equals(t.s)) { found = i; } }
        if (found < 0) { throw new Fault(3, t.place); }
        return found;
    }
    private String newName(Park q, boolean beast) {
        Token t = nameToken();
        boolean taken = q.places.contains(t.s);
        for (Train u : q.trains) { taken |= u.name.equals(t.s); }
        for (Beast u : q.beasts) { taken |= u.name.equals(t.s); }
        if (taken || beast && q.places.isEmpty()) { throw new Fault(3, t.place); }
        return t.s;
    }

    private Park readPark() {
        Park q = new Park();
        boolean odds = false;
        while (look().kind != 'e') {
            Token t = next();
            switch (t.kind == 'w' ? t.s : "") {
                case "odds":
                    if (odds) { throw new Fault(5, t.place); }
                    odds = true;
                    q.odds = number(0, 16);
                    break;
                case "place":
                    if (q.places.size() == 6) { throw new Fault(6, t.place); }
                    q.places.add(newName(q, false));
                    break;
                case "train": {
                    if (q.trains.size() == 8) { throw new Fault(6, t.place); }
                    Train u = new Train();
                    u.name = newName(q, false);
                    need("from");
                    u.from = oldName(q, 'p');
                    need("to");
                    int place = look().place;
                    u.to = oldName(q, 'p');
                    if (u.to == u.from) { throw new Fault(5, place); }
                    need("at");
                    u.at = number(0, 63);
                    need("takes");
                    u.takes = number(1, 24);
                    if (comes("seats")) { at++; u.seats = number(1, 9); }
                    q.trains.add(u);
                    break;
                }
                case "beast": {
                    if (q.beasts.size() == 8) { throw new Fault(6, t.place); }
                    Beast u = new Beast();
                    u.name = newName(q, true);
                    if (comes("size")) { at++; u.size = number(1, 9); }
                    if (comes("trust")) { at++; u.trust = number(0, 16); }
                    if (comes("out")) { at++; u.out = true; }
                    q.beasts.add(u);
                    break;
                }
                case "hunts": {
                    int a = oldName(q, 'b');
                    int place = look().place;
                    int b = oldName(q, 'b');
                    if (a == b || !q.beasts.get(a).hunts.add(b)) { throw new Fault(5, place); }
                    break;
                }
                case "ticket": {
                    Beast b = q.beasts.get(oldName(q, 'b'));
                    b.tickets.clear();
                    while (!comes(";")) {
                        int place = look().place;
                        if (!b.tickets.add(oldName(q, 't'))) { throw new Fault(5, place); }
                    }
                    break;
                }
                default: throw new Fault(2, t.place);
            }
            need(";");
        }
        return q;
    }

    public int park(int n) {
        if (n < 0 || n > tape.length) { return no(1); }
        split(n);
        tape = new byte[0];
        fault = 0;
        faultAt = -1;
        try {
            p = readPark();
            return ok(p.beasts.size());
        } catch (Fault f) {
            fault = f.kind;
            faultAt = f.place;
            return no(9);
        }
    }

    private int stepsRead;

    private List<Step> readSteps(int depth) {
        List<Step> list = new ArrayList<>();
        while (true) {
            Token t = look();
            if (t.kind == 'e' && depth == 0) { return list; }
            if (comes("end") && depth > 0) { at++; need(";"); return list; }
            at++;
            String known = " hour monday buy let halt any when loop stop ";
            if (t.kind != 'w' || !known.contains(" " + t.s + " ")) { throw new Fault(2, t.place); }
            if (stepsRead == 30) { throw new Fault(6, t.place); }
            if (depth == 3 && (t.s.equals("when") || t.s.equals("loop"))) { throw new Fault(7, t.place); }
            stepsRead++;
            Step s = new Step();
            s.word = t.s;
            if (t.s.equals("hour")) { s.a = number(1, 64); }
            if (t.s.equals("loop")) { s.a = number(1, 99); }
            if (t.s.equals("buy")) { s.a = oldName(p, 'b'); s.b = oldName(p, 't'); }
            if (t.s.equals("let")) { s.a = oldName(p, 'b'); }
            if (t.s.equals("halt")) { s.a = oldName(p, 't'); }
            if (t.s.equals("when")) {
                Token w = next();
                s.sign = w.s;
                if (w.s.equals("in")) { s.a = oldName(p, 'b'); s.b = oldName(p, 'p'); }
                else if (w.s.equals("eaten")) { s.a = oldName(p, 'b'); }
                else if (w.s.equals("clock")) {
                    Token c = next();
                    if (!c.s.equals("<") && !c.s.equals(">") && !c.s.equals("=")) { throw new Fault(2, c.place); }
                    s.sign = c.s;
                    s.a = number(0, 64);
                } else { throw new Fault(2, w.place); }
            }
            need(";");
            if (t.s.equals("when") || t.s.equals("loop")) { s.body = readSteps(depth + 1); }
            list.add(s);
        }
    }

    public int weeks(int n) {
        if (n < 0 || n > tape.length || n > 300) { return no(1); }
        split(n);
        tape = new byte[0];
        fault = 0;
        faultAt = -1;
        stepsRead = 0;
        try {
            p.weeks = readSteps(0);
            return ok(stepsRead);
        } catch (Fault f) {
            fault = f.kind;
            faultAt = f.place;
            return no(9);
        }
    }

    public int fault(int what) { return what == 0 ? fault : what == 1 ? faultAt : -1; }

    public int told(int what) {
        List<Integer> set = new ArrayList<>();
        int late = 0;
        for (int i = 0; i < p.beasts.size(); i++) {
            Beast b = beastOf(i);
            late += b.late;
            if (what == 6 && b.out || what == 7 && b.eaten || what == 8 && !b.eaten && b.spot >= 10) { set.add(i); }
        }
        for (int i = 0; what == 9 && i < p.trains.size(); i++) { if (p.trains.get(i).halted) { set.add(i); } }
        if (!within(what, 0, 10)) { return no(1); }
        if (within(what, 6, 9)) { return ok(bits(set)); }
        int[] plain = {p.places.size(), p.trains.size(), p.beasts.size(), p.odds, p.week, p.hour};
        return ok(what == 10 ? late : plain[what]);
    }

    private int onBoard(int k) {
        int s = 0;
        for (int i = 0; i < p.beasts.size(); i++) { if (!beastOf(i).eaten && beastOf(i).spot == 10 + k) { s |= 1 << i; } }
        return s;
    }

    public int train(int k, int what) {
        if (!isTrain(k) || !within(what, 0, 6)) { return no(1); }
        Train t = p.trains.get(k);
        return ok(new int[] {t.from, t.to, t.at, t.takes, t.seats, t.halted ? 1 : 0, onBoard(k)}[what]);
    }
    public int beast(int i, int what) {
        if (!isBeast(i) || !within(what, 0, 6)) { return no(1); }
        Beast b = beastOf(i);
        return ok(new int[] {b.size, b.trust, b.out ? 1 : 0, b.eaten ? 1 : 0, b.late, bits(b.tickets), bits(b.hunts)}[what]);
    }
    public int at(int b) {
        if (!isBeast(b)) { return no(1); }
        return beastOf(b).eaten ? no(6) : ok(beastOf(b).spot);
    }
    public int there(int place) {
        if (!isPlace(place)) { return no(1); }
        int s = 0;
        for (int i = 0; i < p.beasts.size(); i++) { if (!beastOf(i).eaten && beastOf(i).spot == place) { s |= 1 << i; } }
        return ok(s);
    }
    private boolean pair(int a, int b) { return isBeast(a) && isBeast(b) && a != b; }
    public int together(int a, int b) {
        if (!pair(a, b)) { return no(1); }
        return ok(p.together(a, b) ? 1 : 0);
    }

    // what is done

    public int hour(int many) {
        if (!within(many, 1, 64)) { return no(1); }
        if (p.hour + many > 64) { return no(4); }
        return ok(bits(p.passTo(p.hour + many)));
    }
    public int monday() {
        if (p.week == 999) { return no(4); }
        if (p.hour != 64) { return no(7); }
        return ok(bits(p.fetch()));
    }
    public boolean ticket(int b, int k, boolean has) {
        if (!isBeast(b) || !isTrain(k)) { return not(1); }
        if (beastOf(b).eaten || beastOf(b).tickets.contains(k) == has) { return not(7); }
        if (has) { beastOf(b).tickets.add(k); } else { beastOf(b).tickets.remove(k); }
        return ok();
    }
    public boolean let(int b, boolean out) {
        if (!isBeast(b)) { return not(1); }
        if (beastOf(b).eaten || beastOf(b).out == out) { return not(7); }
        beastOf(b).out = out;
        return ok();
    }
    public boolean halt(int k, boolean is) {
        if (!isTrain(k)) { return not(1); }
        if (p.trains.get(k).halted == is) { return not(7); }
        p.trains.get(k).halted = is;
        return ok();
    }
    public boolean trust(int b, int much) {
        if (!isBeast(b) || !within(much, 0, 16)) { return not(1); }
        beastOf(b).trust = much;
        return ok();
    }
    public boolean shift(int k, int hour) {
        if (!isTrain(k) || !within(hour, 0, 63)) { return not(1); }
        if (onBoard(k) != 0) { return not(7); }
        p.trains.get(k).at = hour;
        return ok();
    }
    public boolean hunt(int a, int b, boolean is) {
        if (!pair(a, b)) { return not(1); }
        if (beastOf(a).hunts.contains(b) == is) { return not(7); }
        if (is) { beastOf(a).hunts.add(b); } else { beastOf(a).hunts.remove(b); }
        return ok();
    }
    public boolean mourn(int b) {
        if (!isBeast(b)) { return not(1); }
        if (!beastOf(b).eaten) { return not(7); }
        beastOf(b).eaten = false;
        beastOf(b).spot = 0;
        return ok();
    }
    public boolean rule(int odds) {
        if (!within(odds, 0, 16)) { return not(1); }
        p.odds = odds;
        return ok();
    }

    // what would be

    public int where(int b, int hour) {
        if (!isBeast(b) || !within(hour, p.hour, 64)) { return no(1); }
        Park q = p.copy();
        q.passTo(hour);
        return q.beasts.get(b).eaten ? no(6) : ok(q.beasts.get(b).spot);
    }
    private Beast victim(int b) {
        if (!isBeast(b)) { status = 1; return null; }
        Park q = p.copy();
        if (!q.passTo(64).contains(b)) { status = 6; return null; }
        status = 0;
        return q.beasts.get(b);
    }
    public int eatenAt(int b) { Beast v = victim(b); return v == null ? -1 : v.when; }
    public int eater(int b) { Beast v = victim(b); return v == null ? -1 : v.by; }
    public int meet(int a, int b) {
        if (!pair(a, b)) { return no(1); }
        Park q = p.copy();
        while (true) {
            if (q.together(a, b)) { return ok(q.hour); }
            if (q.hour == 64) { return no(6); }
            q.pass();
        }
    }
    public int lateBy() { Park q = p.copy(); q.passTo(64); return ok(bits(q.fetch())); }
    private int outside(int set) { return bits(p.letOut(set).passTo(64)); }
    public int peace(int set) {
        if (!isSet(set)) { return no(1); }
        if ((set & p.eatenSet()) != 0) { return no(7); }
        return ok(outside(set) == 0 ? 1 : 0);
    }
    public int eatenBy(int set) {
        if (!isSet(set)) { return no(1); }
        if ((set & p.eatenSet()) != 0) { return no(7); }
        return ok(outside(set));
    }
    private int[] setsByCount() {
        List<Integer> all = new ArrayList<>();
        for (int s = 0; s < 1 << p.beasts.size(); s++) { if ((s & p.eatenSet()) == 0) { all.add(s); } }
        all.sort((x, y) -> Integer.bitCount(x) != Integer.bitCount(y) ? Integer.bitCount(y) - Integer.bitCount(x) : x - y);
        return all.stream().mapToInt(x -> x).toArray();
    }
    public int most() {
        for (int s : setsByCount()) { if (outside(s) == 0) { return ok(s); } }
        throw new IllegalStateException();
    }

    /** Every way there is from a place at an hour, to a place: {first train, arrival, first hour}. */
    private void everyWay(int place, int hour, int to, int off, int first, List<int[]> found) {
        for (int k = 0; k < p.trains.size(); k++) {
            Train t = p.trains.get(k);
            if (t.halted || (off >> k & 1) != 0 || t.from != place || t.at < hour || t.at + t.takes > 64) { continue; }
            int f = first < 0 ? k : first;
            if (t.to == to) { found.add(new int[] {f, t.at + t.takes, p.trains.get(f).at}); }
            everyWay(t.to, t.at + t.takes, to, off, f, found);
        }
    }
    private int soon(int place, int hour, int to, int off) {
        int best = place == to ? hour : 99;
        List<int[]> found = new ArrayList<>();
        if (place != to) { everyWay(place, hour, to, off, -1, found); }
        for (int[] w : found) { best = Math.min(best, w[1]); }
        return best;
    }
    public int soonest(int place, int hour, int to) {
        if (!isPlace(place) || !isPlace(to) || !within(hour, 0, 63)) { return no(1); }
        int s = soon(place, hour, to, 0);
        return s > 64 ? no(6) : ok(s);
    }
    public int soonestBy(int place, int hour, int to) {
        if (!isPlace(place) || !isPlace(to) || !within(hour, 0, 63)) { return no(1); }
        int s = soon(place, hour, to, 0);
        if (s > 64) { return no(6); }
        if (place == to) { return no(7); }
        List<int[]> found = new ArrayList<>();
        everyWay(place, hour, to, 0, -1, found);
        int best = 99;
        for (int[] w : found) { if (w[1] == s) { best = Math.min(best, w[0]); } }
        return ok(best);
    }
    private int late(int place, int to, int by) {
        if (place == to) { return by; }
        List<int[]> found = new ArrayList<>();
        everyWay(place, 0, to, 0, -1, found);
        int best = -1;
        for (int[] w : found) { if (w[1] <= by) { best = Math.max(best, w[2]); } }
        return best;
    }
    public int latest(int place, int to, int by) {
        if (!isPlace(place) || !isPlace(to) || !within(by, 0, 64)) { return no(1); }
        int s = late(place, to, by);
        return s < 0 ? no(6) : ok(s);
    }
    public int stay(int place) {
        if (!isPlace(place) || place == 0) { return no(1); }
        int comes = soon(0, 0, place, 0), goes = late(place, 0, 64);
        return comes > 64 || goes < comes ? no(6) : ok(goes - comes);
    }
    public int reach() {
        if (p.places.isEmpty()) { return no(6); }
        int s = 0;
        for (int i = 0; i < p.places.size(); i++) { if (soon(0, 0, i, 0) <= 64) { s |= 1 << i; } }
        return ok(s);
    }
    private int cutOf(int place) {
        for (int many = 0; many <= 8; many++) {
            for (int s = 0; s < 1 << p.trains.size(); s++) {
                if (Integer.bitCount(s) == many && soon(0, 0, place, s) > 64) { return s; }
            }
        }
        throw new IllegalStateException();
    }
    public int cut(int place) { return !isPlace(place) || place == 0 ? no(1) : ok(Integer.bitCount(cutOf(place))); }
    public int cutSet(int place) { return !isPlace(place) || place == 0 ? no(1) : ok(cutOf(place)); }

    private BigInteger snowFrom(int k, int off, int place) {
        if (k == p.trains.size()) { return soon(0, 0, place, off) <= 64 ? BigInteger.ONE : BigInteger.ZERO; }
        if (p.trains.get(k).halted) { return snowFrom(k + 1, off, place).multiply(BigInteger.valueOf(16)); }
        BigInteger stops = snowFrom(k + 1, off | 1 << k, place).multiply(BigInteger.valueOf(p.odds));
        return stops.add(snowFrom(k + 1, off, place).multiply(BigInteger.valueOf(16 - p.odds)));
    }
    public boolean snow(int place) {
        if (!isPlace(place)) { return not(1); }
        fraction(snowFrom(0, 0, place), BigInteger.valueOf(16).pow(p.trains.size()));
        return ok();
    }
    private BigInteger backFrom(int i, int set, int k) {
        if (i == p.beasts.size()) { return k <= 0 ? BigInteger.ONE : BigInteger.ZERO; }
        if ((set >> i & 1) == 0) { return backFrom(i + 1, set, k); }
        BigInteger home = backFrom(i + 1, set, k - 1).multiply(BigInteger.valueOf(beastOf(i).trust));
        return home.add(backFrom(i + 1, set, k).multiply(BigInteger.valueOf(16 - beastOf(i).trust)));
    }
    public boolean back(int set, int k) {
        if (!isSet(set) || !within(k, 0, 8)) { return not(1); }
        fraction(backFrom(0, set, k), BigInteger.valueOf(16).pow(Integer.bitCount(set)));
        return ok();
    }
    public int wildest(int set) {
        if (!isSet(set)) { return no(1); }
        for (int t = 0; t <= 16; t++) {
            for (int i = 0; i < p.beasts.size(); i++) { if ((set >> i & 1) == 1 && beastOf(i).trust == t) { return ok(i); } }
        }
        return no(6);
    }
    /** Puts beast by beast into one of the rooms there are, or a new one. */
    private int house(int i, int set, int size, List<List<Integer>> in) {
        if (i == p.beasts.size()) { return in.size(); }
        if ((set >> i & 1) == 0) { return house(i + 1, set, size, in); }
        int best = 99;
        for (int r = 0; r <= in.size(); r++) {
            if (r == in.size() && in.size() == 8) { break; }
            List<Integer> room = r < in.size() ? in.get(r) : new ArrayList<>();
            int sum = beastOf(i).size;
            boolean fits = true;
            for (int j : room) {
                sum += beastOf(j).size;
                fits &= !beastOf(i).hunts.contains(j) && !beastOf(j).hunts.contains(i);
            }
            if (!fits || sum > size) { continue; }
            boolean fresh = r == in.size();
            if (fresh) { in.add(room); }
            room.add(i);
            best = Math.min(best, house(i + 1, set, size, in));
            room.remove(room.size() - 1);
            if (fresh) { in.remove(in.size() - 1); break; }
        }
        return best;
    }
    public int rooms(int set, int size) {
        if (!isSet(set) || !within(size, 1, 72)) { return no(1); }
        int r = house(0, set, size, new ArrayList<>());
        return r > 8 ? no(6) : ok(r);
    }
    public int roomSize(int set, int many) {
        if (!isSet(set) || !within(many, 1, 8)) { return no(1); }
        for (int size = 1; size <= 72; size++) { if (house(0, set, size, new ArrayList<>()) <= many) { return ok(size); } }
        return no(6);
    }

    /** The slips of every set, or null with the status told. */
    private Map<Integer, Integer> parrot(int t, int n, int slips) {
        if (!within(t, 0, 3) || !within(n, 0, 20) || !within(slips, 0, 20)) { status = 1; return null; }
        if (trays[t] == null) { status = 2; return null; }
        if (trays[t].length < 3 * n) { status = 3; return null; }
        for (int i = 0; i < n; i++) {
            long[] r = trays[t];
            if (!within(r[3 * i], 0, 64) || !within(r[3 * i + 1], 1, p.places.size() - 1)
                || !within(r[3 * i + 2], 0, p.beasts.size() - 1)) { status = 5; return null; }
        }
        Map<Integer, Integer> all = new HashMap<>();
        for (int s : setsByCount()) {
            Park q = p.letOut(s);
            int bad = n;
            while (true) {
                for (int i = 0; i < n; i++) {
                    Beast b = q.beasts.get((int) trays[t][3 * i + 2]);
                    if (q.hour == trays[t][3 * i] && !b.eaten && b.spot == trays[t][3 * i + 1]) { bad--; }
                }
                if (q.hour == 64) { break; }
                q.pass();
            }
            all.put(s, bad);
        }
        status = 0;
        return all;
    }
    public int sets(int t, int n, int slips) {
        Map<Integer, Integer> all = parrot(t, n, slips);
        return all == null ? -1 : (int) all.values().stream().filter(x -> x <= slips).count();
    }
    public int sure(int t, int n, int slips) {
        Map<Integer, Integer> all = parrot(t, n, slips);
        if (all == null) { return -1; }
        int s = -1;
        for (Map.Entry<Integer, Integer> e : all.entrySet()) { if (e.getValue() <= slips) { s &= e.getKey(); } }
        return s == -1 ? no(6) : ok(s);
    }
    public int slips(int t, int n) {
        Map<Integer, Integer> all = parrot(t, n, 0);
        return all == null ? -1 : Collections.min(all.values());
    }
    public int copyPlaces(int t) {
        int n = p.beasts.size();
        if (!within(t, 0, 3)) { return no(1); }
        if (trays[t] == null) { return no(2); }
        if (trays[t].length < n) { return no(3); }
        for (int i = 0; i < n; i++) { trays[t][i] = beastOf(i).eaten ? -1 : beastOf(i).spot; }
        return ok(n);
    }

    // weeks

    private static final class Stop extends RuntimeException { Stop() { super(null, null, false, false); } }

    private int[] count;
    private int steps;
    private int s;

    private int draw(int n) { s = (int) ((s * 3089L + 11317) % 65536); return s / 8 % n; }

    private void live(Park q, List<Step> body) {
        for (Step t : body) {
            if (steps == 300) { count[4] = 1; throw new Stop(); }
            steps++;
            Beast b = t.a >= 0 && t.a < q.beasts.size() ? q.beasts.get(t.a) : null;
            switch (t.word) {
                case "hour":
                    if (q.hour + t.a > 64) { count[0]++; } else { count[1] += t.a; count[2] += q.passTo(q.hour + t.a).size(); }
                    break;
                case "monday":
                    if (q.hour != 64 || q.week == 999) { count[0]++; } else { count[3] += q.fetch().size(); }
                    break;
                case "buy":
                    if (b.eaten) { count[0]++; } else if (!b.tickets.remove(t.b)) { b.tickets.add(t.b); }
                    break;
                case "let":
                    if (b.eaten) { count[0]++; } else { b.out = !b.out; }
                    break;
                case "halt": q.trains.get(t.a).halted ^= true; break;
                case "any":
                    if (q.trains.isEmpty()) { count[0]++; }
                    for (Train u : q.trains) { u.halted = draw(16) < q.odds; }
                    break;
                case "stop": throw new Stop();
                case "loop": for (int i = 0; i < t.a; i++) { live(q, t.body); } break;
                default:
                    boolean so;
                    switch (t.sign) {
                        case "in": so = !b.eaten && b.spot == t.b; break;
                        case "eaten": so = b.eaten; break;
                        case "<": so = q.hour < t.a; break;
                        case ">": so = q.hour > t.a; break;
                        default: so = q.hour == t.a;
                    }
                    if (so) { live(q, t.body); }
            }
        }
    }
    private void liveAll(Park q, int seed) {
        count = new int[5];
        steps = 0;
        s = seed;
        try { live(q, q.weeks); } catch (Stop stop) { return; }
    }
    public int live(int seed) {
        if (!within(seed, 0, 9999)) { return no(1); }
        if (p.weeks == null) { return no(6); }
        liveAll(p, seed);
        lived = count;
        return ok(steps);
    }
    public int lived(int what) {
        if (!within(what, 0, 4)) { return no(1); }
        return lived == null ? no(6) : ok(lived[what]);
    }
    public boolean mean(int seed, int many) {
        if (seed < 0 || !within(many, 1, 20) || 0L + seed + many - 1 > 9999) { return not(1); }
        if (p.weeks == null) { return not(6); }
        int sum = 0;
        for (int i = 0; i < many; i++) {
            Park q = p.copy();
            liveAll(q, seed + i);
            sum += Integer.bitCount(q.eatenSet());
        }
        fraction(BigInteger.valueOf(sum), BigInteger.valueOf(many));
        return ok();
    }

    // marks

    public int mark() {
        if (marks.size() == 3) { return no(4); }
        marks.add(p.copy());
        return ok(marks.size());
    }
    public int undo() {
        if (marks.isEmpty()) { return no(6); }
        p = marks.remove(marks.size() - 1);
        return ok(marks.size());
    }
}
