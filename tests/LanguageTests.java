import java.io.IOException;
import java.lang.reflect.Constructor;
import java.lang.reflect.Field;
import java.lang.reflect.Method;
import java.lang.reflect.Modifier;
import java.nio.file.Files;
import java.nio.file.Path;
import java.util.Arrays;
import java.util.List;
import java.util.TreeSet;
import java.util.regex.Matcher;
import java.util.regex.Pattern;

/** What of LANGUAGE.md can be seen from the source and from the class; the argument is the source. */
public final class LanguageTests {
    private static final List<String> FACE = Arrays.asList(("status top bottom tray write read pour feed park weeks fault told"
        + " train beast at there together hour monday ticket let halt trust shift hunt mourn rule where eatenAt eater meet"
        + " lateBy peace eatenBy most soonest soonestBy latest stay reach cut cutSet snow back wildest rooms roomSize sets"
        + " sure slips copyPlaces live lived mean mark undo").split(" "));

    public static void main(String[] args) throws IOException {
        face();
        classes();
        source(args.length > 0 ? args[0] : "src/main/java/CageLeave.java");
        nothingMade();
        Kit.end("LanguageTests");
    }

    private static void say(String what, boolean good) {
        if (!good) { System.out.println("LANGUAGE.md: " + what); }
        Kit.due(good, true);
    }

    private static void face() {
        Kit.promise("the face");
        TreeSet<String> seen = new TreeSet<>();
        for (Method m : CageLeave.class.getDeclaredMethods()) {
            boolean open = Modifier.isPublic(m.getModifiers());
            if (open) { seen.add(m.getName()); }
            say("1: " + m.getName(), open != Modifier.isPrivate(m.getModifiers()) && open == FACE.contains(m.getName()));
        }
        Kit.due(seen.size(), FACE.size());
        for (Field f : CageLeave.class.getDeclaredFields()) {
            say("1: " + f.getName(), Modifier.isPrivate(f.getModifiers()) || f.getName().equals("NONE"));
        }
        Constructor<?>[] made = CageLeave.class.getDeclaredConstructors();
        Kit.due(made.length, 1);
        Kit.due(Modifier.isPublic(made[0].getModifiers()), true);
        Kit.due(Modifier.isFinal(CageLeave.class.getModifiers()), true);
    }

    private static void classes() {
        Kit.promise("the classes inside");
        Class<?>[] inside = CageLeave.class.getDeclaredClasses();
        say("11: some twelve classes", inside.length <= 14);
        for (Class<?> c : inside) {
            say("1: " + c, !Modifier.isPublic(c.getModifiers()) && Modifier.isStatic(c.getModifiers()));
            int fields = 0;
            for (Field f : c.getDeclaredFields()) {
                if (!Modifier.isStatic(f.getModifiers())) { fields++; }
                say("5: " + f, !Modifier.isStatic(f.getModifiers()) || Modifier.isFinal(f.getModifiers()));
            }
            say("11: some twenty fields of " + c, fields <= 24);
            for (Method m : c.getDeclaredMethods()) {
                say("11: " + m, m.getParameterCount() <= 7);
                say("1: " + m, !FACE.contains(m.getName()));
                say("6: " + m, !Arrays.asList("equals", "hashCode", "toString").contains(m.getName()));
            }
        }
    }

    private static void source(String path) throws IOException {
        Kit.promise("the source");
        String text = Files.readString(Path.of(path)).replaceAll("\"[^\"\n]*\"", "\"\"")
            .replaceAll("(?s)/\\*.*?\\*/", "").replaceAll("//[^\n]*", "");
        for (String word : "throw try catch finally synchronized assert import package instanceof native volatile".split(" ")) {
            say("6: " + word, !Pattern.compile("\\b" + word + "\\b").matcher(text).find());
        }
        say("2: lambda", !text.contains("->") && !text.contains("::"));
        Matcher m = Pattern.compile("(?m)^( +)[\\w\\[\\] ]+\\([^;{}]*\\) \\{\n(.*?)^\\1\\}", Pattern.DOTALL).matcher(text);
        int methods = 0;
        while (m.find()) {
            methods++;
            say("11: some sixty lines of " + m.group().split("\n")[0].trim(), m.group().split("\n").length <= 66);
        }
        say("methods are found", methods > 100);
    }

    /** All calls of a run live in one room: what a thread made is read ahead of many dear calls and behind them. */
    private static void nothingMade() {
        Kit.promise("objects made by calls");
        com.sun.management.ThreadMXBean threads =
            (com.sun.management.ThreadMXBean) java.lang.management.ManagementFactory.getThreadMXBean();
        CageLeave x = Kit.weeks(Kit.ZOO, "any;loop 9;hour 64;monday;end;");
        x.tray(0, 0, 60);
        long before = 0;
        for (int round = 0; round < 3; round++) {
            before = threads.getThreadAllocatedBytes(Thread.currentThread().getId());
            for (int i = 0; i < 5; i++) {
                x.most();
                x.snow(1);
                x.cut(1);
                x.roomSize(7, 2);
                x.live(i);
                x.mean(i, 20);
                x.mark();
                x.undo();
                x.tray(0, 0, 60);
                x.sets(0, 0, 0);
                x.feed(0, 0, 0, 0, 0);
                x.park(20);
            }
        }
        long made = threads.getThreadAllocatedBytes(Thread.currentThread().getId()) - before;
        say("12: bytes made by 60 calls: " + made, made < 1_000_000);
    }
}
