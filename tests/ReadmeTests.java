import java.io.IOException;
import java.nio.file.Files;
import java.nio.file.Path;
import java.util.ArrayList;
import java.util.List;

/** The lines of Java in README.md, as they stand there, and what they say they answer. */
public final class ReadmeTests {
    public static void main(String[] args) throws IOException {
        Kit.promise("README.md");
        sameLines(Path.of("README.md"), Path.of("tests/ReadmeTests.java"));
        example();
        Kit.end("ReadmeTests");
    }

    /** README.md's lines are here one behind the other, in its order; what asks them stands between. */
    private static void sameLines(Path readme, Path test) throws IOException {
        List<String> here = Files.readAllLines(test);
        int at = 0;
        List<String> told = javaOf(Files.readAllLines(readme));
        Kit.due(told.size() > 30, true);
        for (String line : told) {
            while (at < here.size() && !here.get(at).trim().equals(line)) { at++; }
            if (at == here.size()) {
                Kit.fail("its line is not asked here, or not in this order: " + line);
                return;
            }
            at++;
        }
    }

    private static List<String> javaOf(List<String> lines) {
        List<String> code = new ArrayList<>();
        boolean inside = false;
        for (String line : lines) {
            if (line.startsWith("```")) {
                inside = line.equals("```java");
            } else if (inside && !line.isBlank()) {
                code.add(line.trim());
            }
        }
        return code;
    }

    static int feed(CageLeave x, String text) {
        for (int i = 0; i < text.length(); i += 20) {
            int[] five = new int[5];
            for (int j = 0; j < 20 && i + j < text.length(); j++) {
                five[j / 4] |= text.charAt(i + j) << 24 - j % 4 * 8;
            }
            x.feed(five[0], five[1], five[2], five[3], five[4]);
        }
        return text.length();
    }

    private static void example() {
        CageLeave x = new CageLeave();
        int beasts = x.park(feed(x, "odds 4; place z; place s;"
            + "train a from z to s at 2 takes 3; train b from s to z at 40 takes 4;"
            + "beast l size 5 out; beast g trust 12 out; hunts l g; ticket l a b; ticket g a b;")); // 2
        Kit.is(x, beasts, 2);
        int when = x.eatenAt(1); // 2: then l and g get on train a
        Kit.is(x, when, 2);
        int most = x.most(); // 1: l alone can be let out in peace
        Kit.is(x, most, 1);
        boolean told = x.snow(1); // true: place s can be reached by snow ..
        Kit.yes(x, told);
        long top = x.top(); // 3: .. by 3 in 4, 12 sixteenths
        Kit.due(top, 3);
        long bottom = x.bottom(); // 4
        Kit.due(bottom, 4);

        int marks = x.mark(); // 1
        Kit.is(x, marks, 1);
        int eaten = x.hour(6); // 2: the set of g
        Kit.is(x, eaten, 2);
        int place = x.at(0); // 1: l is in s
        Kit.is(x, place, 1);
        int gone = x.at(1); // CageLeave.NONE: g is nowhere
        Kit.due(gone, CageLeave.NONE);
        int why = x.status(); // 6: there is none such
        Kit.due(why, 6);
        int left = x.undo(); // 0: g lives, it is hour 0 again
        Kit.is(x, left, 0);
        Kit.is(x, x.told(7), 0);
        Kit.is(x, x.told(5), 0);

        int steps = x.weeks(feed(x, "let g; loop 3; hour 64; monday; end;")); // 4
        Kit.is(x, steps, 4);
        int come = x.live(7); // 8: let, loop, three times hour and monday
        Kit.is(x, come, 8);
        int hours = x.lived(1); // 192
        Kit.is(x, hours, 192);
        int fault = x.weeks(feed(x, "hour 65;")); // CageLeave.NONE: those told ahead stay
        Kit.none(x, fault, 9);
        int kind = x.fault(0); // 4: a number that can't be ..
        Kit.due(kind, 4);
        int where = x.fault(1); // 5: .. at the sixth byte
        Kit.due(where, 5);
        Kit.is(x, x.live(7), 8);
    }
}
