import java.io.IOException;
import java.nio.file.Files;
import java.nio.file.Path;
import java.util.ArrayList;
import java.util.List;
import java.util.Map;
import java.util.TreeMap;
import java.util.regex.Matcher;
import java.util.regex.Pattern;

/**
 * Tests of the document's sentences: each is told apart by where it stands ("Terms 1", "Promise 5")
 * and by the sentence's own words, which must stand there.
 */
final class Edge {
    interface Test { void go(); }

    interface Tells { long by(CageLeave x); }

    interface Does { boolean by(CageLeave x); }

    interface Makes { CageLeave one(); }

    /** Six PLACES, eight TRAINS, eight BEASTS, all OUT, each with a TICKET for a TRAIN of its own. */
    static final String FULL = "odds 16;place z;place y;place x;place w;place v;place u;"
        + "train a from z to y at 0 takes 1;train b from z to x at 0 takes 2;train c from z to w at 0 takes 3;"
        + "train d from z to v at 0 takes 4;train e from z to u at 0 takes 5;train f from z to y at 0 takes 6;"
        + "train g from z to x at 0 takes 7;train h from z to u at 0 takes 24;"
        + "beast i out;beast j out;beast k out;beast l out;beast m out;beast n out;beast o out;beast p out;"
        + "ticket i a;ticket j b;ticket k c;ticket l d;ticket m e;ticket n f;ticket o g;ticket p h;";

    static final String ZS = "place z;place s;";
    /** Four BEASTS on one TRAIN, that gets to s at 5. */
    static final String RIDE = ZS + "train a from z to s at 0 takes 5;beast m out;beast n out;beast o out;beast p out;"
        + "ticket m a;ticket n a;ticket o a;ticket p a;";

    private static final Map<String, List<String>> QUOTED = new TreeMap<>();
    private static int tests = 0;
    private static List<String> richLeft = null;

    private Edge() { }

    static void of(String where, String words, Test test) {
        tests++;
        QUOTED.computeIfAbsent(where, k -> new ArrayList<>()).add(words);
        Kit.promise(where + ", \"" + words + "\"");
        try {
            test.go();
        } catch (RuntimeException | StackOverflowError thrown) {
            Kit.fail("threw " + thrown);
        }
    }

    // ---- parks

    static CageLeave at(String park, int hour) {
        CageLeave x = Kit.park(park);
        if (hour > 0) { x.hour(hour); }
        return x;
    }

    /** A part so many times, each with another letter for #, from a on. */
    static String times(String part, int many) {
        StringBuilder s = new StringBuilder();
        for (int i = 0; i < many; i++) { s.append(part.replace('#', (char) ('a' + i))); }
        return s.toString();
    }

    /** Whether a TOKEN begins with a byte. */
    static boolean begins(int c) {
        return c >= 'a' && c <= 'z' || c >= '0' && c <= '9' || c == ';' || c == '<' || c == '>' || c == '=';
    }

    // ---- calls that are refused

    /** A call on the rich object that answers NONE, with a STATUS, and changes nothing else. */
    static void none(int status, Tells call) {
        refused(rich(), richLeft(), status, -1, call);
    }

    /** Likewise one that answers false. */
    static void not(int status, Does call) {
        refused(rich(), richLeft(), status, 0, x -> call.by(x) ? 1 : 0);
    }

    static void none(Makes made, int status, Tells call) {
        refused(made.one(), left(made.one()), status, -1, call);
    }

    static void not(Makes made, int status, Does call) {
        refused(made.one(), left(made.one()), status, 0, x -> call.by(x) ? 1 : 0);
    }

    private static void refused(CageLeave x, List<String> untouched, int status, long answer, Tells call) {
        Kit.due(call.by(x), answer);
        Kit.due(x.status(), status);
        Kit.same(left(x), untouched);
    }

    private static List<String> richLeft() {
        if (richLeft == null) { richLeft = left(rich()); }
        return richLeft;
    }

    /** The ZOO at HOUR 5 of WEEK 1, when all kinds of things have happened; two MARKS, something on the tape. */
    static CageLeave rich() {
        CageLeave x = Kit.park(Kit.ZOO);
        Kit.tellWeeks(x, "any;hour 2;let t;");
        x.mark();
        x.halt(3, true);
        x.hour(64);
        // g was EATEN at 12, l could not come back.
        x.monday();
        x.mark();
        x.live(5);
        // Whatever was drawn: a, b, c go, e does not.
        x.halt(0, true);
        x.halt(0, false);
        x.halt(1, true);
        x.halt(1, false);
        x.halt(2, true);
        x.halt(2, false);
        x.halt(4, false);
        x.halt(4, true);
        x.hour(3);
        // Now l is on a, t on b.
        x.trust(2, 15);
        x.hunt(2, 0, true);
        x.shift(4, 59);
        Kit.tellWeeks(x, "hour 65;");
        x.tray(0, 0, 5);
        for (int i = 0; i < 5; i++) { x.write(0, i, i + 1); }
        x.tray(1, 0, 2);
        x.write(1, 0, 7);
        x.write(1, 1, 8);
        x.tray(3, 3, 6);
        int[] threes = {10, 1, 0, 40, 2, 2};
        for (int i = 0; i < 6; i++) { x.write(3, i, threes[i]); }
        x.back(3, 1);
        Kit.feed(x, "place q;beast w out;");
        return x;
    }

    /** All that can be asked of an object, what it holds for later, too; it is used up then. */
    static List<String> left(CageLeave x) {
        List<String> all = new ArrayList<>();
        all.add("top " + x.top() + ", bottom " + x.bottom());
        all.add("fault " + x.fault(0) + ", " + x.fault(1));
        for (int what = 0; what < 5; what++) { all.add("lived(" + what + ") " + x.lived(what)); }
        for (int tray = 0; tray < 4; tray++) {
            for (int i = 0; i < 6; i++) { all.add("read(" + tray + ", " + i + ") " + x.read(tray, i)); }
        }
        park(x, all);
        all.add("live(77) " + x.live(77) + ", HOUR " + x.told(5) + ", HALTED " + x.told(9) + ", OUT " + x.told(6));
        int fed = x.feed(0, 0, 0, 0, 0);
        all.add("feed " + fed + ", park " + x.park(fed - 20) + ", STATUS " + x.status() + ", OUT " + x.told(6));
        for (int i = 0; i < 4; i++) {
            all.add("undo " + x.undo());
            if (x.status() == 0) {
                park(x, all);
                all.add("live(9) " + x.live(9) + ", HOUR " + x.told(5) + ", HALTED " + x.told(9));
            }
        }
        return all;
    }

    private static void park(CageLeave x, List<String> all) {
        for (int what = 0; what <= 10; what++) { all.add("told(" + what + ") " + x.told(what)); }
        int places = Math.min(6, x.told(0));
        int trains = Math.min(8, x.told(1));
        int beasts = Math.min(8, x.told(2));
        for (int what = 0; what <= 6; what++) {
            for (int k = 0; k < trains; k++) { all.add("train(" + k + ", " + what + ") " + x.train(k, what)); }
            for (int b = 0; b < beasts; b++) { all.add("beast(" + b + ", " + what + ") " + x.beast(b, what)); }
        }
        for (int b = 0; b < beasts; b++) { all.add("at(" + b + ") " + x.at(b)); }
        for (int p = 0; p < places; p++) { all.add("there(" + p + ") " + x.there(p)); }
    }

    // ---- the document

    /** Each quotation stands where it is said to stand, and no word of the document is left out. */
    static void end(String document) throws IOException {
        if (!Files.exists(Path.of(document))) {
            System.out.println("EdgeTests: " + tests + " sentences; without " + document + " their words are not compared");
            return;
        }
        Map<String, String> sections = sections(Files.readString(Path.of(document)));
        if (sections.size() != 5 + 57) { Kit.fail("the document has " + sections.size() + " Terms and promises"); }
        for (String where : QUOTED.keySet()) {
            if (!sections.containsKey(where)) { Kit.fail("the document has no " + where); }
        }
        for (Map.Entry<String, String> e : sections.entrySet()) {
            Kit.promise(e.getKey());
            char[] rest = e.getValue().toCharArray();
            for (String words : QUOTED.getOrDefault(e.getKey(), new ArrayList<>())) {
                int at = e.getValue().indexOf(words);
                if (at < 0) { Kit.fail("does not say \"" + words + "\""); }
                for (; at >= 0; at = e.getValue().indexOf(words, at + 1)) {
                    for (int i = 0; i < words.length(); i++) { rest[at + i] = ' '; }
                }
            }
            String untested = new String(rest).replaceAll("[^A-Za-z0-9]+", " ").trim();
            if (!untested.isEmpty()) { Kit.fail("no test of: " + untested); }
        }
        System.out.println("EdgeTests: " + tests + " sentences of " + sections.size() + " places");
    }

    private static Map<String, String> sections(String document) {
        Map<String, String> all = new TreeMap<>();
        String text = document.replaceAll("```text|```", " ").replaceAll("\\s+", " ");
        Matcher terms = Pattern.compile("==== (\\d)\\. (.*?)(?= ==== \\d| The constants: )").matcher(text);
        while (terms.find()) { all.put("Terms " + terms.group(1), terms.group(2)); }
        Matcher promises = Pattern.compile("## (Promise \\d+): \\S.*? `[^`]*`: (.*?)(?= ## )").matcher(text);
        while (promises.find()) { all.put(promises.group(1), promises.group(2)); }
        return all;
    }
}
