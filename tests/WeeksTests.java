/** Promises 53 to 57. */
public final class WeeksTests {
    public static void main(String[] args) {
        wrong();
        steps();
        missed();
        tests();
        loops();
        threeHundred();
        draws();
        mean();
        marks();
        Kit.end("WeeksTests");
    }

    private static void livedIs(CageLeave x, int... want) {
        for (int what = 0; what < want.length; what++) { Kit.is(x, x.lived(what), want[what]); }
    }

    private static void wrong() {
        Kit.promise("promises 53 to 55: wrong");
        CageLeave x = Kit.park(Kit.ZOO);
        Kit.none(x, x.live(-1), 1);
        Kit.none(x, x.live(10000), 1);
        Kit.none(x, x.live(0), 6);
        Kit.none(x, x.lived(-1), 1);
        Kit.none(x, x.lived(5), 1);
        Kit.none(x, x.lived(4), 6);
        Kit.not(x, x.mean(-1, 1), 1);
        Kit.not(x, x.mean(0, 0), 1);
        Kit.not(x, x.mean(0, 21), 1);
        Kit.not(x, x.mean(10000, 1), 1);
        Kit.not(x, x.mean(9990, 11), 1);
        Kit.not(x, x.mean(Integer.MAX_VALUE, 20), 1);
        Kit.not(x, x.mean(0, 1), 6);
        Kit.tellWeeks(x, "hour 13;");
        Kit.fraction(x, x.mean(9990, 10), 1, 1);
        Kit.none(x, x.lived(0), 6);
        Kit.none(x, x.live(10000), 1);
        Kit.none(x, x.lived(0), 6);
        Kit.is(x, x.live(9999), 1);
        livedIs(x, 0, 13, 1, 0, 0);
        Kit.none(x, x.live(-1), 1);
        x.mean(0, 3);
        x.park(0);
        livedIs(x, 0, 13, 1, 0, 0);
        Kit.none(x, x.live(0), 6);
        livedIs(x, 0, 13, 1, 0, 0);
    }

    private static void steps() {
        Kit.promise("promise 53");
        CageLeave x = Kit.weeks(Kit.ZOO, "halt d;let t;let g;buy t b;buy t a;hour 64;monday;hour 3;");
        Kit.is(x, x.live(5), 8);
        livedIs(x, 0, 67, 0, 2, 0);
        Kit.is(x, x.told(4), 1);
        Kit.is(x, x.told(5), 3);
        Kit.is(x, x.told(6), 5);
        Kit.is(x, x.told(9), 8);
        Kit.is(x, x.beast(2, 5), 17);
        Kit.is(x, x.train(0, 6), 5);
        Kit.is(x, x.told(10), 2);
        // A second time: halt, let, buy are turned back.
        Kit.is(x, x.live(5), 8);
        livedIs(x, 2, 3, 0, 0, 0);
        Kit.is(x, x.told(9), 0);
        Kit.is(x, x.told(6), 3);
        Kit.is(x, x.beast(2, 5), 18);
        Kit.is(x, x.told(5), 6);
        Kit.is(x, x.live(5), 8);
        livedIs(x, 2, 3, 0, 0, 0);
    }

    private static void missed() {
        Kit.promise("MISSED");
        CageLeave x = Kit.weeks(Kit.ZOO, "monday;hour 60;hour 5;hour 4;hour 1;buy g a;let g;halt a;monday;monday;");
        Kit.is(x, x.live(0), 10);
        livedIs(x, 6, 64, 1, 0, 0);
        Kit.is(x, x.told(4), 1);
        Kit.is(x, x.beast(1, 5), 6);
        Kit.is(x, x.beast(1, 2), 1);
        Kit.is(x, x.told(9), 1);
        x = Kit.weeks("place z;", "any;hour 1;any;");
        Kit.is(x, x.live(0), 3);
        livedIs(x, 2, 1, 0, 0, 0);
    }

    private static void tests() {
        Kit.promise("TESTS");
        // Each when that holds lets t or not; the body of one that does not hold is not come to.
        Kit.due(stepsOf("when in l z;any;any;end;"), 3);
        Kit.due(stepsOf("when in l s;any;any;end;"), 1);
        Kit.due(stepsOf("hour 3;when in l z;any;end;when in l s;any;end;"), 3);
        Kit.due(stepsOf("hour 6;when in l s;any;end;when in g s;any;end;"), 4);
        Kit.due(stepsOf("hour 13;when in g s;any;end;when eaten g;any;end;when eaten l;any;end;"), 5);
        Kit.due(stepsOf("when clock=0;any;end;when clock<1;any;end;when clock>0;any;end;"), 5);
        Kit.due(stepsOf("hour 64;when clock=64;any;end;when clock<64;any;end;when clock>63;any;end;"), 6);
        Kit.due(stepsOf("when clock>5;when clock<9;any;end;any;end;hour 1;"), 2);
        Kit.due(stepsOf("when clock<5;when clock>9;any;end;any;end;hour 1;"), 4);
    }

    private static int stepsOf(String weeks) {
        CageLeave x = Kit.weeks(Kit.ZOO, weeks);
        x.rule(0);
        return x.live(0);
    }

    private static void loops() {
        Kit.promise("loop, stop");
        CageLeave x = Kit.weeks(Kit.ZOO, "loop 3;loop 2;let t;end;hour 1;end;hour 1;");
        Kit.is(x, x.live(0), 1 + 3 * (1 + 2 + 1) + 1);
        Kit.is(x, x.told(5), 4);
        Kit.is(x, x.told(6), 3);
        Kit.is(Kit.weeks(Kit.ZOO, "loop 1;end;"), 0, 0);
        x = Kit.weeks(Kit.ZOO, "loop 99;end;hour 1;");
        Kit.is(x, x.live(0), 2);
        x = Kit.weeks(Kit.ZOO, "loop 9;hour 1;when clock=4;stop;end;end;hour 9;");
        Kit.is(x, x.live(0), 1 + 4 * 2 + 1);
        livedIs(x, 0, 4, 0, 0, 0);
        Kit.is(x, x.live(0), 1 + 9 * 2 + 1);
    }

    private static void threeHundred() {
        Kit.promise("300 STEPS");
        String hundred = "loop 99;any;let t;any;end;any;";
        CageLeave x = Kit.weeks(Kit.ZOO, hundred);
        Kit.is(x, x.live(0), 299);
        livedIs(x, 0, 0, 0, 0, 0);
        x = Kit.weeks(Kit.ZOO, hundred + "hour 1;");
        Kit.is(x, x.live(0), 300);
        livedIs(x, 0, 1, 0, 0, 0);
        x = Kit.weeks(Kit.ZOO, hundred + "hour 1;hour 1;");
        Kit.is(x, x.live(0), 300);
        livedIs(x, 0, 1, 0, 0, 1);
        x = Kit.weeks(Kit.ZOO, hundred + "stop;hour 1;");
        Kit.is(x, x.live(0), 300);
        livedIs(x, 0, 0, 0, 0, 0);
        x = Kit.weeks(Kit.ZOO, hundred + "loop 9;end;");
        Kit.is(x, x.live(0), 300);
        livedIs(x, 0, 0, 0, 0, 0);
        x = Kit.weeks(Kit.ZOO, hundred + "loop 9;any;end;");
        Kit.is(x, x.live(0), 300);
        livedIs(x, 0, 0, 0, 0, 1);
        x = Kit.weeks(Kit.ZOO, hundred + "when clock>9;any;end;");
        Kit.is(x, x.live(0), 300);
        livedIs(x, 0, 0, 0, 0, 0);
        x = Kit.weeks(Kit.ZOO, "loop 99;loop 99;loop 99;hour 64;monday;end;end;end;");
        Kit.is(x, x.live(0), 300);
        livedIs(x, 0, 148 * 64, 1, 0, 1);
    }

    private static void draws() {
        Kit.promise("draws");
        for (int seed : new int[] {0, 1, 777, 9999}) {
            CageLeave x = Kit.weeks(Kit.ZOO, "any;any;");
            x.rule(9);
            int s = seed;
            int halted = 0;
            for (int i = 0; i < 10; i++) {
                s = (int) ((s * 3089L + 11317L) % 65536L);
                if (s / 8 % 16 < 9) { halted |= 1 << i; }
            }
            Kit.is(x, x.live(seed), 2);
            Kit.is(x, x.told(9), halted >> 5);
        }
        CageLeave x = Kit.weeks(Kit.ZOO, "any;");
        x.rule(16);
        x.live(3);
        Kit.is(x, x.told(9), 31);
        x.rule(0);
        x.live(3);
        Kit.is(x, x.told(9), 0);
        // By hand: 0, 11317, 1414 by 16: 6; so ODDS 7 halt the first train, ODDS 6 do not.
        x.rule(7);
        x.live(0);
        Kit.is(x, x.told(9) & 1, 1);
        x.rule(6);
        x.live(0);
        Kit.is(x, x.told(9) & 1, 0);
    }

    private static void mean() {
        Kit.promise("promise 55");
        CageLeave x = Kit.weeks(Kit.ZOO, "any;hour 64;");
        int sum = 0;
        for (int seed = 30; seed < 50; seed++) {
            CageLeave y = Kit.weeks(Kit.ZOO, "any;hour 64;");
            y.live(seed);
            sum += Integer.bitCount(y.told(7));
        }
        Kit.yes(x, x.mean(30, 20));
        Kit.due(x.top() * 20, sum * x.bottom());
        Kit.due(sum > 0 && sum < 20, true);
        Kit.is(x, x.told(5), 0);
        Kit.is(x, x.told(7), 0);
        Kit.is(x, x.told(9), 0);
        // How many are EATEN then, not in them.
        x = Kit.weeks(Kit.ZOO, "buy l b;let t;halt a;monday;");
        x.hour(13);
        Kit.fraction(x, x.mean(0, 7), 1, 1);
        Kit.is(x, x.told(9), 0);
        Kit.is(x, x.beast(0, 5), 9);
        Kit.is(x, x.told(6), 3);
        x.mourn(1);
        Kit.fraction(x, x.mean(0, 7), 0, 1);
        Kit.is(x, x.live(0), 4);
        Kit.is(x, x.told(9), 1);
    }

    private static void marks() {
        Kit.promise("promises 56, 57");
        CageLeave x = Kit.weeks(Kit.ZOO, "hour 2;");
        Kit.none(x, x.undo(), 6);
        Kit.is(x, x.mark(), 1);
        x.hour(13);
        x.trust(0, 1);
        x.halt(4, true);
        x.shift(4, 5);
        x.hunt(1, 0, true);
        x.ticket(0, 4, true);
        x.let(2, true);
        x.rule(9);
        x.tray(0, 0, 1);
        Kit.is(x, x.mark(), 2);
        x.hour(51);
        x.monday();
        Kit.tellPark(x, "place z;beast only;");
        Kit.is(x, x.mark(), 3);
        Kit.none(x, x.mark(), 4);
        Kit.fraction(x, x.back(1, 1), 1, 2);
        Kit.none(x, Kit.tellPark(x, "odds 77;"), 9);
        Kit.none(x, x.live(0), 6);
        Kit.is(x, x.undo(), 2);
        Kit.is(x, x.told(2), 1);
        Kit.is(x, x.undo(), 1);
        int[] told = {3, 5, 3, 9, 0, 13, 7, 2, 0, 16, 0};
        for (int what = 0; what < 11; what++) { Kit.is(x, x.told(what), told[what]); }
        Kit.is(x, x.beast(0, 1), 1);
        Kit.is(x, x.beast(0, 5), 25);
        Kit.is(x, x.beast(1, 6), 1);
        Kit.is(x, x.train(4, 2), 5);
        Kit.is(x, x.live(0), 1);
        Kit.is(x, x.told(5), 15);
        Kit.is(x, x.undo(), 0);
        int[] first = {3, 5, 3, 4, 0, 0, 3, 0, 0, 0, 0};
        for (int what = 0; what < 11; what++) { Kit.is(x, x.told(what), first[what]); }
        Kit.is(x, x.beast(0, 1), 8);
        Kit.is(x, x.beast(0, 5), 9);
        Kit.is(x, x.beast(1, 6), 0);
        Kit.is(x, x.train(4, 2), 60);
        Kit.is(x, x.there(0), 7);
        Kit.none(x, x.undo(), 6);
        // What is no part of the park stays.
        Kit.is(x, x.read(0, 0), 0);
        Kit.is(x, x.lived(1), 2);
        Kit.due(x.fault(0), 4);
        Kit.due(x.bottom(), 2);
        // NAMES are those of the park again.
        Kit.is(x, Kit.tellWeeks(x, "let l;"), 1);
        Kit.is(x, x.mark(), 1);
        Kit.is(x, x.live(0), 1);
        Kit.is(x, Kit.tellWeeks(x, "let l;let g;"), 2);
        Kit.is(x, x.undo(), 0);
        Kit.is(x, x.live(0), 1);
        Kit.is(x, x.told(6), 2);
    }
}
