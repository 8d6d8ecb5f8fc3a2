/** Sentences of "Terms" 4, promises 11 and 53 to 57. */
final class EdgesOfWeeks {
    /** 299 STEPS without any HOUR; t is let OUT by the last of its rounds. */
    private static final String LONG = "loop 99;any;let t;any;end;any;";

    private EdgesOfWeeks() { }

    static void go() {
        texts();
        grammar();
        faults();
        tooMany();
        weeks();
        steps();
        missed();
        tests();
        loops();
        limit();
        seeds();
        draws();
        marks();
        fractions();
        live();
        lived();
        mean();
        mark();
    }

    private static void bad(String text, int kind, int place) { Kit.weeksFault(text, kind, place); }

    /** A FAULT at the last TOKEN of what is ahead and the rest together. */
    private static void bad(String ahead, int kind, String wrong) { Kit.weeksFault(ahead + wrong, kind, ahead.length()); }

    private static CageLeave good(String text) { return Kit.weeks(Kit.ZOO, text); }

    /** How many STEPS are come to in the ZOO, where no TRAIN is HALTED by chance. */
    private static int stepsOf(String text) {
        CageLeave x = good(text);
        x.rule(0);
        return x.live(0);
    }

    private static void livedIs(CageLeave x, int... due) {
        for (int what = 0; what < due.length; what++) { Kit.is(x, x.lived(what), due[what]); }
    }

    // ---- texts

    private static void texts() {
        Edge.of("Terms 4", "WEEKS are a TEXT of at most 300 bytes, of such TOKENS (none at first).", () -> {
            CageLeave x = Kit.park(Kit.ZOO);
            Kit.none(x, x.live(0), 6);
            Kit.feed(x, "any;" + " ".repeat(292) + "any;" + "any;");
            Kit.none(x, x.weeks(301), 1);
            Kit.none(x, x.weeks(304), 1);
            Kit.is(x, x.weeks(300), 2);
            bad("any;" + " ".repeat(295), 2, "=");
            bad("any" + " ".repeat(297), 2, "");
            for (int c = 0; c < 256; c++) { behind(c); }
            bad("hour ", 1, "00003;");
            bad("hour ", 1, "12345;");
            good("hour\n0003\n;\n monday\n;");
            good("hour3;loop2;when clock<5;end;end;");
        });
    }

    /** Any byte behind a STEP. */
    private static void behind(int c) {
        String text = "any;" + (char) c;
        if (c == 10 || c == 32) {
            good(text);
            return;
        }
        bad(text, Edge.begins(c) ? 2 : 1, 4);
    }

    private static void grammar() {
        Edge.of("Terms 4", "WEEKS: {STEP}. STEP:", () -> {
            good("");
            good("  \n");
            good("any;");
            good("any;monday;stop;");
            for (String word : "odds place train from to at takes seats beast size trust out hunts ticket in eaten clock end l a z x 5".split(" ")) {
                bad("", 2, word);
                bad("any;", 2, word);
            }
            bad("", 2, ";");
            bad("any;", 2, ";");
            bad("", 2, "abcdefghi");
        });
        Edge.of("Terms 4", "hour NUMBER ;", () -> step("hour 5 ;"));
        Edge.of("Terms 4", "or monday ;", () -> step("monday ;"));
        Edge.of("Terms 4", "or buy NAME NAME ;", () -> step("buy l a ;"));
        Edge.of("Terms 4", "or let NAME ;", () -> step("let l ;"));
        Edge.of("Terms 4", "or halt NAME ;", () -> step("halt a ;"));
        Edge.of("Terms 4", "or any ;", () -> step("any ;"));
        Edge.of("Terms 4", "or when TEST ; {STEP} end ;", () -> {
            step("when eaten l ; end ;");
            step("when eaten l ; any ; end ;");
            step("when eaten l ; any ; hour 5 ; let l ; end ;");
            bad("when ", 2, "l;end;");
            bad("when ", 2, "hour 5;end;");
            bad("when ", 2, ";end;");
        });
        Edge.of("Terms 4", "or loop NUMBER ; {STEP} end ;", () -> {
            step("loop 5 ; end ;");
            step("loop 5 ; any ; end ;");
            step("loop 5 ; loop 5 ; loop 5 ; any ; end ; any ; end ; end ;");
        });
        Edge.of("Terms 4", "or stop ;", () -> step("stop ;"));
        Edge.of("Terms 4", "TEST: in NAME NAME,", () -> {
            step("when in l z ; end ;");
            bad("when in l z ", 2, "s;end;");
        });
        Edge.of("Terms 4", "or eaten NAME,", () -> step("when eaten l ; end ;"));
        Edge.of("Terms 4", "or clock COMPARES NUMBER. COMPARES: < or > or =", () -> {
            step("when clock < 5 ; end ;");
            step("when clock > 5 ; end ;");
            bad("when clock ", 2, "5;end;");
            bad("when clock ", 2, ";end;");
            bad("when clock <", 2, "=5;end;");
            bad("when clock =", 2, "=5;end;");
            good("when clock = 5;end;");
        });
    }

    /** A STEP is taken; each of its TOKENS is missed, and where one stands another one can't. */
    private static void step(String step) {
        good(step);
        good("any;" + step + "any;");
        String[] token = step.split(" ");
        StringBuilder s = new StringBuilder("any;");
        for (int i = 0; i < token.length; i++) {
            if (!s.toString().endsWith("clock ")) { bad(s.toString(), 2, "="); }
            bad(s.toString(), 2, "place");
            bad(s.toString(), 1, "?");
            if (i > 0) { bad(s.toString(), 2, ""); }
            s.append(token[i]).append(' ');
        }
    }

    private static void faults() {
        Edge.of("Terms 4", "FAULTS: 1, 2 as above (an end without a beginning; the text's end ahead of an end: 2).", () -> {
            bad("", 2, "end;");
            bad("any;", 2, "end;");
            bad("loop 3;end;", 2, "end;");
            bad("loop 3;loop 3;end;end;", 2, "end;");
            bad("loop 3;", 2, "");
            bad("loop 3;any; \n ", 2, "");
            bad("when clock=3;", 2, "");
            bad("loop 3;loop 3;end;", 2, "");
            bad("loop 3;end", 2, "");
            bad("loop 3;any", 2, "");
            bad("let ", 2, "abcdefghi;");
            bad("let ", 2, "let;");
            bad("buy l ", 2, "end;");
            bad("any ", 1, "_;");
            bad("hour 9", 1, "!;");
        });
        Edge.of("Terms 4", "3 a NAME that is no such one (buy: a BEAST, a TRAIN; let, eaten: a BEAST; halt: a TRAIN; in: a BEAST, a PLACE).", () -> {
            for (String no : "z a x".split(" ")) {
                bad("buy ", 3, no + " a;");
                bad("let ", 3, no + ";");
                bad("when eaten ", 3, no + ";end;");
                bad("when in ", 3, no + " z;end;");
            }
            for (String no : "z l x".split(" ")) {
                bad("buy l ", 3, no + ";");
                bad("halt ", 3, no + ";");
            }
            for (String no : "l a x".split(" ")) { bad("when in l ", 3, no + ";end;"); }
            good("buy t e;let t;halt e;when eaten t;end;when in t h;end;");
            // NAMES are those of the PARK that is there now.
            CageLeave x = good("let l;");
            Kit.is(x, Kit.tellPark(x, "place p;beast b;"), 1);
            Kit.none(x, Kit.tellWeeks(x, "let l;"), 9);
            Kit.due(x.fault(0), 3);
            Kit.is(x, Kit.tellWeeks(x, "let b;"), 1);
            x = new CageLeave();
            Kit.none(x, Kit.tellWeeks(x, "let l;"), 9);
            Kit.due(x.fault(0), 3);
            Kit.due(x.fault(1), 4);
        });
        Edge.of("Terms 4", "4 a NUMBER that can't be.", () -> {
            bad("hour ", 4, "0;");
            bad("hour ", 4, "65;");
            bad("loop ", 4, "0;end;");
            bad("loop ", 4, "100;end;");
            for (String sign : "< > =".split(" ")) {
                bad("when clock" + sign, 4, "65;end;");
                bad("when clock" + sign, 4, "9999;end;");
                good("when clock" + sign + "0;end;when clock" + sign + "64;end;");
            }
            good("hour 1;hour 64;loop 1;end;loop 99;end;");
        });
    }

    private static void tooMany() {
        String thirty = "any;".repeat(30);
        Edge.of("Terms 4", "6 a 31st STEP (at its WORD; end is none).", () -> {
            CageLeave x = Kit.park(Kit.ZOO);
            Kit.is(x, Kit.tellWeeks(x, thirty), 30);
            for (String word : "hour monday buy let halt any when loop stop".split(" ")) {
                bad(thirty, 6, word);
                bad(thirty + "\n", 6, word + " ?");
            }
            bad(thirty, 2, "end;");
            bad(thirty, 2, "clock;");
            bad(thirty, 2, ";");
            bad(thirty, 1, "Any;");
            x = Kit.park(Kit.ZOO);
            Kit.is(x, Kit.tellWeeks(x, "loop 2;loop 2;loop 2;end;end;end;".repeat(9)), 27);
            Kit.is(x, Kit.tellWeeks(x, "loop 2;" + "any;".repeat(29) + "end;"), 30);
            bad("loop 2;" + "any;".repeat(29), 6, "any;end;");
            bad("loop 2;" + "any;".repeat(29) + "end;", 6, "any;");
            Kit.is(x, Kit.tellWeeks(x, "any;".repeat(29) + "loop 2;end;"), 30);
            // The most STEPS with the most ends: all of them loops.
            Kit.is(x, Kit.tellWeeks(x, "loop1;end;".repeat(30)), 30);
            Kit.is(x, x.live(0), 30);
        });
        Edge.of("Terms 4", "7 a when, loop within three others (at its WORD).", () -> {
            for (int kinds = 0; kinds < 8; kinds++) {
                StringBuilder s = new StringBuilder();
                for (int i = 0; i < 3; i++) { s.append((kinds >> i & 1) == 0 ? "loop 2;" : "when clock<9;"); }
                good(s + "any;end;end;end;");
                bad(s.toString(), 7, "loop");
                bad(s.toString(), 7, "when ?");
                bad(s + "any;end;loop 2;", 7, "loop 2;");
                good(s + "end;loop 2;end;end;when eaten l;end;end;loop 2;end;");
            }
            // A STEP that is both: the least kind.
            bad("loop 2;loop 2;loop 2;" + "any;".repeat(27), 6, "loop 2;");
            bad("loop 2;loop 2;loop 2;" + "any;".repeat(26), 7, "loop 2;");
        });
    }

    private static void weeks() {
        Edge.of("Promise 11", "Likewise the WEEKS: how many STEPS", () -> {
            for (int n : new int[] {0, 4, 8, 12, 13, 20}) {
                CageLeave x = Kit.park(Kit.ZOO);
                Kit.feed(x, "any;any;any;");
                Kit.is(x, x.weeks(n), Math.min(3, n / 4));
                Kit.none(x, x.weeks(1), 1);
                Kit.is(x, x.live(0), Math.min(3, n / 4));
            }
            // The old ones stay, if there is a FAULT.
            CageLeave x = good("hour 3;");
            for (String text : new String[] {"?", "=", "let x;", "hour 0;", "any;".repeat(31), "loop 1;loop 1;loop 1;loop"}) {
                Kit.none(x, Kit.tellWeeks(x, text), 9);
                Kit.none(x, x.weeks(1), 1);
                Kit.is(x, x.live(0), 1);
            }
            Kit.is(x, x.told(5), 18);
        });
        Edge.of("Promise 11", "(1: above 300, too; 9).", () -> {
            for (int n : new int[] {-1, 21, 300, Integer.MIN_VALUE, Integer.MAX_VALUE}) { Edge.none(1, x -> x.weeks(n)); }
            CageLeave x = Edge.rich();
            Kit.none(x, x.weeks(20), 9);
            Kit.due(x.fault(0), 2);
            Kit.due(x.fault(1), 0);
            for (int n : new int[] {301, 320, 900}) { Edge.none(EdgesOfWeeks::longTape, 1, y -> y.weeks(n)); }
            x = longTape();
            Kit.is(x, x.weeks(300), 0);
            Kit.none(x, x.weeks(1), 1);
        });
    }

    private static CageLeave longTape() {
        CageLeave x = good("hour 3;");
        Kit.feed(x, " ".repeat(320));
        return x;
    }

    // ---- STEPS

    private static void steps() {
        Edge.of("Terms 4", "hour: so many (1 to 64);", () -> {
            for (int many : new int[] {1, 2, 63, 64}) {
                CageLeave x = good("hour " + many + ";");
                Kit.is(x, x.live(0), 1);
                Kit.is(x, x.told(5), many);
                livedIs(x, 0, many, many > 12 ? 1 : 0, 0, 0);
            }
        });
        Edge.of("Terms 4", "buy: the BEAST has a TICKET for the TRAIN, or none more if it had; let: it is let OUT, or no more;"
            + " halt: the TRAIN is HALTED, or goes again;", () -> {
            CageLeave x = good("buy t a;let t;halt e;");
            for (int round = 0; round < 4; round++) {
                boolean odd = round % 2 == 1;
                Kit.is(x, x.beast(2, 5), odd ? 19 : 18);
                Kit.is(x, x.told(6), odd ? 7 : 3);
                Kit.is(x, x.told(9), odd ? 16 : 0);
                Kit.is(x, x.live(0), 3);
                livedIs(x, 0, 0, 0, 0, 0);
            }
            // Which one of several; and twice in one row.
            x = good("buy l e;buy l e;buy l e;let g;halt a;halt e;halt a;");
            Kit.is(x, x.live(0), 7);
            Kit.is(x, x.beast(0, 5), 25);
            Kit.is(x, x.told(6), 1);
            Kit.is(x, x.told(9), 16);
            // A TRAIN under way is HALTED, too.
            x = good("hour 3;halt a;");
            Kit.is(x, x.live(0), 2);
            Kit.is(x, x.train(0, 5), 1);
            Kit.is(x, x.train(0, 6), 1);
        });
        Edge.of("Terms 4", "any: each TRAIN, by numbers, is HALTED, if a draw by 16 is below ODDS, else it goes.", () -> {
            for (int odds : new int[] {0, 1, 8, 15, 16}) {
                CageLeave x = good("any;");
                x.rule(odds);
                x.halt(0, true);
                x.halt(4, true);
                Kit.is(x, x.live(1234), 1);
                Kit.is(x, x.told(9), drawn(1234, 5, odds));
                livedIs(x, 0, 0, 0, 0, 0);
            }
            // By hand: of seed 0 the first s is 11317, by 8 1414, by 16 the rest is 6.
            CageLeave x = good("any;");
            x.rule(6);
            x.live(0);
            Kit.is(x, x.train(0, 5), 0);
            x.rule(7);
            x.live(0);
            Kit.is(x, x.train(0, 5), 1);
            x = good("any;");
            x.rule(16);
            x.live(0);
            Kit.is(x, x.told(9), 31);
            x.rule(0);
            x.live(0);
            Kit.is(x, x.told(9), 0);
            x = Kit.weeks(Edge.FULL, "any;");
            x.rule(9);
            x.live(77);
            Kit.is(x, x.told(9), drawn(77, 8, 9));
        });
    }

    /** The TRAINS that are HALTED by the first draws of a seed. */
    private static int drawn(int seed, int trains, int odds) {
        long s = seed;
        int set = 0;
        for (int k = 0; k < trains; k++) {
            s = (s * 3089 + 11317) % 65536;
            if (s / 8 % 16 < odds) { set |= 1 << k; }
        }
        return set;
    }

    private static void missed() {
        Edge.of("Terms 4", "What can't be is MISSED: HOURS beyond 64 (as a whole),", () -> {
            for (int now : new int[] {0, 1, 32, 63, 64}) {
                CageLeave x = good("hour " + Math.min(64, 65 - now) + ";");
                if (now > 0) { x.hour(now); }
                Kit.is(x, x.live(0), 1);
                livedIs(x, now == 0 ? 0 : 1, now == 0 ? 64 : 0);
                Kit.is(x, x.told(5), now == 0 ? 64 : now);
                if (now == 0 || now == 64) { continue; }
                Kit.is(x, Kit.tellWeeks(x, "hour " + (64 - now) + ";"), 1);
                Kit.is(x, x.live(0), 1);
                livedIs(x, 0, 64 - now);
                Kit.is(x, x.told(5), 64);
            }
        });
        Edge.of("Terms 4", "a monday ahead of HOUR 64, or beyond WEEK 999,", () -> {
            CageLeave x = good("monday;hour 63;monday;hour 1;monday;monday;");
            Kit.is(x, x.live(0), 6);
            livedIs(x, 3, 64, 1, 0, 0);
            Kit.is(x, x.told(4), 1);
            Kit.is(x, x.told(5), 0);
            x = Kit.weeks("place p;beast b;", "loop 99;hour 64;monday;end;");
            for (int i = 0; i < 10; i++) { Kit.is(x, x.live(0), 199); }
            Kit.is(x, x.told(4), 990);
            Kit.is(x, x.live(0), 199);
            // Nine more; the next monday is MISSED, and all behind it.
            Kit.is(x, x.told(4), 999);
            Kit.is(x, x.told(5), 64);
            livedIs(x, 90 + 89, 640, 0, 0, 0);
        });
        Edge.of("Terms 4", "buy, let of an EATEN one,", () -> {
            CageLeave x = good("buy g a;buy g b;let g;");
            x.hour(13);
            Kit.is(x, x.live(0), 3);
            livedIs(x, 3, 0, 0, 0, 0);
            Kit.is(x, x.beast(1, 5), 6);
            Kit.is(x, x.beast(1, 2), 1);
            x.mourn(1);
            Kit.is(x, x.live(0), 3);
            livedIs(x, 0, 0, 0, 0, 0);
            Kit.is(x, x.beast(1, 5), 5);
            Kit.is(x, x.beast(1, 2), 0);
        });
        Edge.of("Terms 4", "any without TRAINS (no draw).", () -> {
            CageLeave x = Kit.weeks("place p;beast b;", "any;hour 1;any;");
            Kit.is(x, x.live(5), 3);
            livedIs(x, 2, 1, 0, 0, 0);
            x = Kit.weeks(Edge.ZS + "train a from z to s at 0 takes 1;", "any;");
            Kit.is(x, x.live(5), 1);
            livedIs(x, 0, 0, 0, 0, 0);
        });
    }

    private static void tests() {
        Edge.of("Terms 4", "in: it is at that PLACE, not EATEN;", () -> {
            // l is in z till it gets on a in HOUR 2, in s from 6 on till d goes AT 20.
            int[] hour = {1, 2, 3, 5, 6, 20, 21};
            boolean[] z = {true, true, false, false, false, false, false};
            boolean[] s = {false, false, false, false, true, true, false};
            for (int i = 0; i < hour.length; i++) {
                Kit.due(stepsOf("hour " + hour[i] + ";when in l z;any;end;"), z[i] ? 3 : 2);
                Kit.due(stepsOf("hour " + hour[i] + ";when in l s;any;end;"), s[i] ? 3 : 2);
            }
            Kit.due(stepsOf("when in l z;any;any;end;"), 3);
            Kit.due(stepsOf("when in t h;any;any;end;"), 1);
            // g is EATEN in s, in HOUR 12.
            Kit.due(stepsOf("hour 13;when in g s;any;end;when in g h;any;end;when in g z;any;end;"), 4);
        });
        Edge.of("Terms 4", "clock: the HOUR (0 to 64).", () -> {
            for (int now : new int[] {0, 1, 31, 63, 64}) {
                for (int number : new int[] {0, now - 1, now, now + 1, 64}) {
                    if (number < 0 || number > 64) { continue; }
                    String ahead = now == 0 ? "" : "hour " + now + ";";
                    int due = now == 0 ? 1 : 2;
                    Kit.due(stepsOf(ahead + "when clock<" + number + ";any;end;"), now < number ? due + 1 : due);
                    Kit.due(stepsOf(ahead + "when clock>" + number + ";any;end;"), now > number ? due + 1 : due);
                    Kit.due(stepsOf(ahead + "when clock=" + number + ";any;end;"), now == number ? due + 1 : due);
                }
            }
            // eaten: from the HOUR behind it on.
            Kit.due(stepsOf("hour 12;when eaten g;any;end;"), 2);
            Kit.due(stepsOf("hour 13;when eaten g;any;end;when eaten l;any;end;"), 4);
            // One within another.
            Kit.due(stepsOf("when clock=0;when clock>0;any;end;any;end;any;"), 4);
            Kit.due(stepsOf("when clock>0;when clock=0;any;end;any;end;any;"), 2);
            Kit.due(stepsOf("when clock=0;end;when clock>0;end;"), 2);
        });
    }

    private static void loops() {
        Edge.of("Terms 4", "loop n (1 to 99): as often.", () -> {
            for (int n : new int[] {1, 2, 98, 99}) {
                Kit.due(stepsOf("loop " + n + ";any;end;any;"), n + 2);
                Kit.due(stepsOf("loop " + n + ";end;any;"), 2);
                Kit.due(stepsOf("loop " + n + ";any;any;end;"), 2 * n + 1);
            }
            CageLeave x = good("loop 64;hour 1;end;");
            Kit.is(x, x.live(0), 65);
            Kit.is(x, x.told(5), 64);
            // Each time anew, if it is come to again.
            Kit.due(stepsOf("loop 3;loop 2;any;end;end;"), 1 + 3 * 3);
            Kit.due(stepsOf("loop 2;loop 3;loop 4;any;end;end;any;end;"), 1 + 2 * (1 + 3 * 5 + 1));
            // What was left of a loop that was stopped is nothing to WEEKS told later.
            x = good("loop 9;hour 1;stop;end;");
            Kit.is(x, x.live(0), 3);
            Kit.is(x, Kit.tellWeeks(x, "when clock=1;hour 1;end;"), 2);
            Kit.is(x, x.live(0), 2);
            Kit.is(x, Kit.tellWeeks(x, "loop 2;hour 1;end;"), 2);
            Kit.is(x, x.live(0), 3);
            Kit.is(x, x.told(5), 4);
            Kit.due(stepsOf("loop 9;stop;end;any;"), 2);
            Kit.due(stepsOf("stop;any;"), 1);
            x = good("loop 9;hour 1;when clock=3;stop;end;end;");
            Kit.is(x, x.live(0), 1 + 6 + 1);
            Kit.is(x, x.live(0), 1 + 18);
            livedIs(x, 0, 9, 0, 0, 0);
        });
    }

    private static void limit() {
        Edge.of("Terms 4", "At most 300 STEPS (when, loop count as one each time they are come to from ahead; end does not).", () -> {
            Kit.due(stepsOf(LONG), 299);
            Kit.due(stepsOf(LONG + "any;"), 300);
            Kit.due(stepsOf(LONG + "any;any;"), 300);
            CageLeave x = good(LONG + "hour 1;hour 1;");
            Kit.is(x, x.live(0), 300);
            Kit.is(x, x.told(5), 1);
            x = good(LONG + "loop 9;hour 1;end;");
            Kit.is(x, x.live(0), 300);
            Kit.is(x, x.told(5), 0);
            x = good(LONG + "when clock=0;hour 1;end;");
            Kit.is(x, x.live(0), 300);
            Kit.is(x, x.told(5), 0);
            // A when that does not hold is a STEP, too: 1 and 99 times 3 are 298.
            x = good("loop 99;any;any;when clock>0;any;any;end;end;hour 1;hour 1;hour 1;");
            Kit.is(x, x.live(0), 300);
            Kit.is(x, x.told(5), 2);
            x = good("loop 99;loop 99;loop 99;end;end;end;");
            Kit.is(x, x.live(0), 300);
            Kit.is(x, x.lived(4), 1);
            x = good("loop 99;loop 2;end;any;any;end;hour 1;hour 1;hour 1;");
            Kit.is(x, x.live(0), 300);
            Kit.is(x, x.told(5), 2);
        });
    }

    private static void seeds() {
        Edge.of("Terms 4", "LIVED by a seed (0 to 9,999), from how all is now: what it comes to stays (mean() alone takes it back).", () -> {
            for (int seed : new int[] {0, 1, 9998, 9999}) {
                CageLeave x = good("any;hour 3;");
                x.rule(8);
                Kit.is(x, x.live(seed), 2);
                Kit.is(x, x.told(9), drawn(seed, 5, 8));
                Kit.is(x, x.told(5), 3);
                Kit.is(x, x.live(seed), 2);
                Kit.is(x, x.told(5), 6);
                Kit.yes(x, x.mean(seed, 1));
                Kit.is(x, x.told(5), 6);
            }
            CageLeave x = good("hour 3;");
            x.hour(10);
            Kit.is(x, x.live(0), 1);
            livedIs(x, 0, 3, 1, 0, 0);
            Kit.is(x, x.told(7), 2);
            Edge.none(1, y -> y.live(-1));
            Edge.none(1, y -> y.live(10000));
        });
    }

    private static void draws() {
        Edge.of("Terms 4", "Draws: s, at first the seed, becomes what is left of s times 3,089 and 11,317 by 65,536;"
            + " the draw by n is the rest of s by 8, rounded down, by n.", () -> {
            // From STEP to STEP it goes on; each live() begins with its seed.
            for (int seed : new int[] {0, 1, 7, 4242, 9999}) {
                for (int odds = 1; odds < 16; odds += 2) {
                    CageLeave x = good("any;any;any;");
                    x.rule(odds);
                    for (int round = 0; round < 2; round++) {
                        Kit.is(x, x.live(seed), 3);
                        Kit.is(x, x.told(9), drawn(seed, 15, odds) >> 10);
                    }
                }
            }
            CageLeave x = good("any;hour 1;let t;loop 59;any;end;");
            x.rule(8);
            Kit.is(x, x.live(9999), 63);
            long s = 9999;
            int halted = 0;
            for (int i = 0; i < 300; i++) {
                s = (s * 3089 + 11317) % 65536;
                halted = i % 5 == 0 ? 0 : halted;
                if (s / 8 % 16 < 8) { halted |= 1 << i % 5; }
            }
            Kit.is(x, x.told(9), halted);
        });
    }

    private static void marks() {
        Edge.of("Terms 4", "MARKS, at most 3: the PARK with all that became of it, the WEEKS are kept as they are;"
            + " all is taken back to the latest MARK, which is gone then.", () -> {
            CageLeave x = Edge.rich();
            Kit.is(x, x.mark(), 3);
            Kit.none(x, x.mark(), 4);
            // Everything is done to it.
            x.hour(59);
            x.monday();
            x.ticket(0, 4, true);
            x.let(2, false);
            x.halt(4, false);
            x.trust(0, 1);
            x.shift(4, 3);
            x.hunt(0, 2, true);
            x.mourn(1);
            x.rule(13);
            x.weeks(0);
            x.park(0);
            Kit.is(x, x.undo(), 2);
            CageLeave y = Edge.rich();
            y.weeks(0);
            Kit.tellWeeks(y, "any;hour 2;let t;");
            Kit.same(Edge.left(x), Edge.left(y));
        });
        Edge.of("Terms 4", "FRACTIONS are told by top() and bottom() without a common divisor, the bottom above 0; 0 is 0 by 1.", EdgesOfWeeks::reduced);
    }

    private static void reduced() {
        CageLeave x = Kit.park("odds 16;place p;place q;beast a trust 0;beast b trust 8;beast c trust 16;");
        Kit.fraction(x, x.back(1, 1), 0, 1);
        Kit.fraction(x, x.back(2, 1), 1, 2);
        Kit.fraction(x, x.back(4, 1), 1, 1);
        Kit.fraction(x, x.back(7, 2), 1, 2);
        Kit.fraction(x, x.back(7, 3), 0, 1);
        Kit.fraction(x, x.snow(0), 1, 1);
        Kit.fraction(x, x.snow(1), 0, 1);
        Kit.is(x, Kit.tellWeeks(x, ""), 0);
        Kit.fraction(x, x.mean(0, 20), 0, 1);
        for (int trust = 0; trust <= 16; trust++) {
            x.trust(0, trust);
            Kit.yes(x, x.back(1, 1));
            Kit.due(x.top() * 16, trust * x.bottom());
            Kit.due(x.bottom() == 1 || x.top() % 2 == 1, true);
        }
    }

    private static void fractions() {
        Edge.of("Promise 55", "The FRACTION is the mean of how many are EATEN behind the WEEKS, by so many seeds (1 to 20) from one on", () -> {
            for (int many : new int[] {1, 2, 19, 20}) {
                for (int seed : new int[] {0, 30, 10000 - many}) {
                    int sum = 0;
                    for (int i = 0; i < many; i++) {
                        CageLeave y = good("any;hour 64;");
                        Kit.is(y, y.live(seed + i), 2);
                        sum += Integer.bitCount(y.told(7));
                    }
                    CageLeave x = good("any;hour 64;");
                    Kit.yes(x, x.mean(seed, many));
                    Kit.due(x.top() * many, sum * x.bottom());
                }
            }
            // Who was EATEN ahead of them is EATEN behind them.
            CageLeave x = good("hour 1;");
            x.hour(13);
            Kit.fraction(x, x.mean(0, 20), 1, 1);
            x = good("");
            Kit.fraction(x, x.mean(0, 20), 0, 1);
        });
    }

    private static void live() {
        Edge.of("Promise 53", "LIVED: how many STEPS were come to (MISSED ones, too)", () -> {
            Kit.due(stepsOf(""), 0);
            Kit.due(stepsOf("any;"), 1);
            Kit.due(stepsOf("monday;monday;hour 64;hour 1;"), 4);
            Kit.due(stepsOf("when eaten l;any;any;end;"), 1);
            Kit.due(stepsOf("loop 2;monday;end;"), 3);
            Kit.due(stepsOf(LONG + "monday;monday;"), 300);
        });
        Edge.of("Promise 53", "(1; 6: no WEEKS).", () -> {
            for (int seed : new int[] {-1, 10000, Integer.MIN_VALUE, Integer.MAX_VALUE}) {
                Edge.none(1, x -> x.live(seed));
                Edge.none(CageLeave::new, 1, x -> x.live(seed));
            }
            Edge.none(CageLeave::new, 6, x -> x.live(0));
            Edge.none(() -> Kit.park(Kit.ZOO), 6, x -> x.live(9999));
            CageLeave x = good("hour 1;");
            Kit.is(x, x.live(9999), 1);
            Kit.is(x, x.live(0), 1);
            // A PARK that is taken has none.
            x.park(0);
            Kit.none(x, x.live(0), 6);
            // A text of no bytes tells WEEKS of no STEPS.
            Kit.is(x, x.weeks(0), 0);
            Kit.is(x, x.live(0), 0);
        });
    }

    private static void lived() {
        Edge.of("Promise 54", "Of live() latest with STATUS 0 (whatever came behind it), what 0: how many were MISSED, 1: HOURS, 2: how many were EATEN, 3: how many were LATE,", () -> {
            CageLeave x = good("monday;hour 64;hour 1;monday;hour 64;monday;hour 5;");
            x.halt(3, true);
            Kit.is(x, x.live(0), 7);
            livedIs(x, 2, 133, 1, 2, 0);
            // Of what is not MISSED.
            CageLeave y = good("hour 64;monday;buy l b;let l;halt a;any;when eaten l;end;when clock=0;end;loop 2;end;stop;");
            Kit.is(y, y.live(0), 10);
            livedIs(y, 0, 64, 1, 0, 0);
            // Neither what is refused nor what is done otherwise counts.
            Kit.none(x, x.live(-1), 1);
            x.mean(0, 20);
            x.hour(9);
            x.mark();
            livedIs(x, 2, 133, 1, 2, 0);
            x.undo();
            Kit.none(x, Kit.tellWeeks(x, "?"), 9);
            x.park(0);
            Kit.none(x, x.live(0), 6);
            livedIs(x, 2, 133, 1, 2, 0);
            Kit.is(x, x.weeks(0), 0);
            livedIs(x, 2, 133, 1, 2, 0);
            Kit.is(x, x.live(0), 0);
            livedIs(x, 0, 0, 0, 0, 0);
        });
        Edge.of("Promise 54", "4: 1 if a STEP was left to be done (by the 300 alone, not by stop), else 0", () -> {
            String[] behind = {"", "any;", "any;any;", "stop;", "stop;any;", "any;stop;", "loop 9;end;", "loop 9;any;end;", "when clock>9;any;end;",
                "when clock=0;any;end;", "when clock=0;end;", "when clock>9;any;end;any;", "loop 9;end;stop;", "hour 1;monday;", "monday;"};
            int[] due = {0, 0, 1, 0, 0, 1, 0, 1, 0, 1, 0, 1, 1, 1, 0};
            for (int i = 0; i < due.length; i++) {
                CageLeave x = good(LONG + behind[i]);
                Kit.is(x, x.live(0), i == 0 ? 299 : 300);
                Kit.is(x, x.lived(4), due[i]);
            }
            CageLeave x = good("any;stop;any;");
            Kit.is(x, x.live(0), 2);
            Kit.is(x, x.lived(4), 0);
            x = good("loop 99;any;any;end;loop 99;any;end;loop 1;end;any;");
            Kit.is(x, x.live(0), 300);
            Kit.is(x, x.lived(4), 1);
            x = good("loop 99;any;any;end;loop 99;any;end;loop 1;end;");
            Kit.is(x, x.live(0), 300);
            Kit.is(x, x.lived(4), 0);
        });
        Edge.of("Promise 54", "(1; 6: there was none).", () -> {
            for (int what : new int[] {-1, 5, Integer.MIN_VALUE, Integer.MAX_VALUE}) {
                Edge.none(1, x -> x.lived(what));
                Edge.none(CageLeave::new, 1, x -> x.lived(what));
            }
            for (int what = 0; what <= 4; what++) {
                int number = what;
                Edge.none(CageLeave::new, 6, x -> x.lived(number));
                Edge.none(EdgesOfWeeks::neverLived, 6, x -> x.lived(number));
            }
        });
    }

    /** WEEKS that were asked about, but not LIVED. */
    private static CageLeave neverLived() {
        CageLeave x = good("hour 9;");
        x.mean(0, 3);
        x.live(-1);
        return x;
    }

    private static void mean() {
        Edge.of("Promise 55", "(1: the last above 9,999, too; 6: no WEEKS);", () -> {
            int[][] no = {{-1, 1}, {0, 0}, {0, 21}, {0, -1}, {10000, 1}, {9999, 2}, {9981, 20}, {9980, 21}, {Integer.MAX_VALUE, 1},
                {Integer.MAX_VALUE, 20}, {Integer.MIN_VALUE, 1}, {0, Integer.MAX_VALUE}, {0, Integer.MIN_VALUE}, {9999, Integer.MIN_VALUE}};
            for (int[] a : no) {
                Edge.not(1, x -> x.mean(a[0], a[1]));
                Edge.not(CageLeave::new, 1, x -> x.mean(a[0], a[1]));
            }
            CageLeave x = good("hour 13;");
            Kit.fraction(x, x.mean(9980, 20), 1, 1);
            Kit.fraction(x, x.mean(9999, 1), 1, 1);
            Kit.fraction(x, x.mean(0, 1), 1, 1);
            Edge.not(CageLeave::new, 6, y -> y.mean(0, 1));
            Edge.not(() -> Kit.park(Kit.ZOO), 6, y -> y.mean(9980, 20));
        });
        Edge.of("Promise 55", "all stays as it is.", () -> {
            CageLeave x = Edge.rich();
            CageLeave y = Edge.rich();
            Kit.fraction(x, x.mean(0, 20), 1, 1);
            // Only the FRACTION is told by both.
            Kit.fraction(y, y.back(4, 0), 1, 1);
            Kit.same(Edge.left(x), Edge.left(y));
        });
    }

    private static void mark() {
        Edge.of("Promise 56", "A MARK more: how many there are (4).", () -> {
            CageLeave x = new CageLeave();
            for (int i = 1; i <= 3; i++) { Kit.is(x, x.mark(), i); }
            Edge.none(EdgesOfWeeks::threeMarks, 4, y -> y.mark());
            Kit.none(x, x.mark(), 4);
            Kit.is(x, x.undo(), 2);
            Kit.is(x, x.mark(), 3);
            Kit.none(x, x.mark(), 4);
        });
        Edge.of("Promise 57", "All is taken back to the latest MARK: how many there are left (6).", () -> {
            Edge.none(CageLeave::new, 6, y -> y.undo());
            CageLeave x = Kit.park(Kit.ZOO);
            for (int i = 1; i <= 3; i++) {
                Kit.is(x, x.mark(), i);
                Kit.is(x, x.hour(3), 0);
            }
            for (int i = 2; i >= 0; i--) {
                Kit.is(x, x.undo(), i);
                Kit.is(x, x.told(5), 3 * i);
                Kit.is(x, x.at(0), i == 0 ? 0 : i == 1 ? 10 : 1);
            }
            Kit.none(x, x.undo(), 6);
            // From one PARK to another, with MARKS of both.
            Kit.is(x, x.mark(), 1);
            Kit.is(x, Kit.tellPark(x, Edge.FULL), 8);
            Kit.is(x, Kit.tellWeeks(x, "let p;"), 1);
            Kit.is(x, x.mark(), 2);
            Kit.is(x, x.park(0), 0);
            Kit.is(x, x.undo(), 1);
            Kit.is(x, x.told(2), 8);
            Kit.is(x, x.live(0), 1);
            Kit.is(x, x.told(6), 127);
            Kit.is(x, x.undo(), 0);
            Kit.is(x, x.told(2), 3);
            Kit.none(x, x.live(0), 6);
            Edge.none(EdgesOfWeeks::noMarkLeft, 6, y -> y.undo());
        });
    }

    private static CageLeave threeMarks() {
        CageLeave x = Edge.rich();
        x.mark();
        return x;
    }

    private static CageLeave noMarkLeft() {
        CageLeave x = Edge.rich();
        x.undo();
        x.undo();
        return x;
    }
}
