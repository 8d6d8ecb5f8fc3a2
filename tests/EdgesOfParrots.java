/** Sentences of "Terms" 3 on the PARROT, promises 49 to 51. */
final class EdgesOfParrots {
    private static final int[] NO_TRAY = {Integer.MIN_VALUE, -1, 4, Integer.MAX_VALUE};

    private EdgesOfParrots() { }

    static void go() {
        terms();
        letOut();
        sets();
        sure();
        slips();
    }

    /** A park with what the PARROT tells in TRAY 0. */
    private static CageLeave told(String park, int... numbers) {
        CageLeave x = Kit.park(park);
        tell(x, numbers);
        return x;
    }

    private static void tell(CageLeave x, int... numbers) {
        x.tray(0, 1, numbers.length);
        for (int i = 0; i < numbers.length; i++) { x.write(0, i, numbers[i]); }
    }

    private static void terms() {
        Edge.of("Terms 3", "PARROT: a TRAY tells by threes: an HOUR (0 to 64), a PLACE (not PLACE 0), a BEAST that was there, at that HOUR (as told for WHERE),", () -> {
            // g gets to h at 6, if it is OUT: seen there from 7 on, till it leaves at 7.
            int[] hour = {0, 6, 7, 8, 64};
            int[] due = {1, 1, 0, 1, 1};
            for (int i = 0; i < 5; i++) {
                CageLeave x = told(Kit.ZOO, hour[i], 2, 1);
                Kit.is(x, x.slips(0, 1), due[i]);
            }
            CageLeave x = told(Kit.ZOO, 64, 1, 1, 13, 1, 1);
            Kit.is(x, x.slips(0, 2), 0);
            Kit.is(x, x.sets(0, 2, 0), 2);
            // At HOUR 64 who comes just then is on the TRAIN still, who came ahead of it is there.
            for (int takes = 3; takes <= 5; takes++) {
                x = told("place z;place s;train a from z to s at 60 takes " + takes + ";beast m;ticket m a;", 64, 1, 0);
                Kit.is(x, x.slips(0, 1), takes == 3 ? 0 : 1);
            }
            // On a TRAIN one is at no PLACE; the numbers are told three by three.
            x = told(Kit.ZOO, 10, 1, 0, 9, 2, 2);
            Kit.is(x, x.sets(0, 1, 0), 4);
            Kit.is(x, x.sets(0, 2, 0), 1);
            Edge.none(() -> told(Kit.ZOO, -1, 1, 0), 5, y -> y.slips(0, 1));
            Edge.none(() -> told(Kit.ZOO, 65, 1, 0), 5, y -> y.slips(0, 1));
            Edge.none(() -> told(Kit.ZOO, 1, 0, 0), 5, y -> y.slips(0, 1));
            Edge.none(() -> told(Kit.ZOO, 1, 3, 0), 5, y -> y.slips(0, 1));
            Edge.none(() -> told(Kit.ZOO, 1, -1, 0), 5, y -> y.slips(0, 1));
            Edge.none(() -> told(Kit.ZOO, 1, 1, 3), 5, y -> y.slips(0, 1));
            Edge.none(() -> told(Kit.ZOO, 1, 1, -1), 5, y -> y.slips(0, 1));
            // The first HOUR and the last one; t left h at 60.
            x = told(Kit.ZOO, 0, 1, 0, 64, 2, 2);
            Kit.is(x, x.slips(0, 2), 2);
        });
    }

    private static void letOut() {
        Edge.of("Terms 3", "when a set of BEASTS was LET OUT (all that are not EATEN now, at HOUR 0, none HALTED more);", () -> {
            // It is HOUR 5 of WEEK 1, l and t are OUT, g is EATEN: asked is as if nobody had gone yet.
            CageLeave x = Edge.rich();
            Kit.is(x, x.sets(3, 0, 0), 4);
            Kit.is(x, x.sets(3, 1, 0), 2);
            Kit.is(x, x.sets(3, 2, 0), 1);
            Kit.is(x, x.at(0), 10);
            Kit.is(x, x.told(5), 5);
            Kit.is(x, x.told(7), 2);
            // Who is EATEN now can't have been anywhere.
            tell(x, 7, 2, 1);
            Kit.is(x, x.slips(0, 1), 1);
            x.mourn(1);
            Kit.is(x, x.slips(0, 1), 0);
            Kit.is(x, x.sets(0, 0, 0), 8);
        });
        Edge.of("Terms 3", "it may tell so many SLIPS, that are not so: by how many sets (of BEASTS not EATEN) there are no more SLIPS;", () -> {
            // The sets with l: 4 of 8; with t, without g: 2; g in s at 20: with g, without l: 2.
            CageLeave x = told(Kit.ZOO, 10, 1, 0, 40, 2, 2, 20, 1, 1);
            int[] due = {0, 1, 7, 8};
            for (int slips = 0; slips < 4; slips++) { Kit.is(x, x.sets(0, 3, slips), due[slips]); }
            // The latest HOUR told first, or between two others.
            int[][] hours = {{60, 13, 7}, {60, 7, 13}, {13, 60, 7}, {13, 7, 60}, {7, 60, 13}, {7, 13, 60}};
            for (int[] h : hours) {
                int[] three = new int[9];
                for (int i = 0; i < 3; i++) {
                    three[3 * i] = h[i];
                    three[3 * i + 1] = h[i] == 7 ? 2 : 1;
                    three[3 * i + 2] = 1;
                }
                x = told(Kit.ZOO, three);
                Kit.is(x, x.sets(0, 3, 0), 2);
                Kit.is(x, x.sure(0, 3, 0), 2);
                Kit.is(x, x.sets(0, 3, 1), 2);
                Kit.is(x, x.sets(0, 3, 2), 4);
                Kit.is(x, x.slips(0, 3), 0);
            }
            // A SLIP told twice counts twice.
            tell(x, 20, 1, 1, 20, 1, 1);
            Kit.is(x, x.sets(0, 2, 0), 2);
            Kit.is(x, x.sets(0, 2, 1), 2);
            Kit.is(x, x.sets(0, 2, 2), 8);
        });
        Edge.of("Terms 3", "SURE: who is in all of these.", () -> {
            CageLeave x = told(Kit.ZOO, 10, 1, 0, 40, 2, 2);
            Kit.is(x, x.sure(0, 1, 0), 1);
            Kit.is(x, x.sure(0, 2, 0), 5);
            Kit.is(x, x.sure(0, 2, 1), 0);
            Kit.is(x, x.sure(0, 0, 0), 0);
            x = told("place z;place s;train a from z to s at 0 takes 1;beast m;ticket m a;", 64, 1, 0);
            Kit.is(x, x.sure(0, 1, 0), 1);
            Kit.is(x, x.sure(0, 1, 1), 0);
        });
    }

    /** What all three calls refuse. */
    private static void refused() {
        for (int t : NO_TRAY) { none(1, t, 0, 0); }
        for (int n : new int[] {-1, 21, Integer.MIN_VALUE, Integer.MAX_VALUE, 1431655766}) {
            none(1, 3, n, 0);
            none(1, 2, n, 0);
        }
        for (int n : new int[] {0, 1, 20}) { none(2, 2, n, 0); }
        none(3, 3, 3, 0);
        none(3, 3, 20, 0);
        none(3, 0, 2, 0);
        none(3, 1, 1, 0);
        none(5, 0, 1, 0);
    }

    private static void none(int status, int tray, int n, int slips) {
        Edge.none(status, x -> x.sets(tray, n, slips));
        Edge.none(status, x -> x.sure(tray, n, slips));
        Edge.none(status, x -> x.slips(tray, n));
    }

    private static void sets() {
        Edge.of("Promise 49", "PARROT by the first n (0 to 20) threes of a TRAY and so many SLIPS (0 to 20): by how many sets", () -> {
            // Twenty times the same, in a TRAY that is full.
            CageLeave x = Kit.park(Kit.ZOO);
            x.tray(1, 0, 60);
            for (int i = 0; i < 60; i++) { x.write(1, i, i % 3 == 0 ? 10 : 2 - i % 3); }
            for (int n : new int[] {1, 2, 19, 20}) {
                Kit.is(x, x.sets(1, n, 0), 4);
                Kit.is(x, x.sets(1, n, n - 1), 4);
                Kit.is(x, x.sets(1, n, n), 8);
                Kit.is(x, x.sets(1, n, 20), 8);
            }
            Kit.is(x, x.sets(1, 0, 0), 8);
            Kit.is(x, x.sets(1, 0, 20), 8);
            // Only the first n are asked, and looked at.
            x.write(1, 57, 99);
            Kit.is(x, x.sets(1, 19, 0), 4);
            Kit.none(x, x.sets(1, 20, 0), 5);
            x.write(1, 57, 10);
            x.write(1, 59, 2);
            Kit.is(x, x.sets(1, 19, 0), 4);
            Kit.is(x, x.sets(1, 20, 0), 0);
            Kit.is(x, x.sets(1, 20, 1), 4);
            x = new CageLeave();
            x.tray(0, 0, 0);
            Kit.is(x, x.sets(0, 0, 0), 1);
            x = Kit.park(Edge.FULL);
            x.tray(0, 0, 3);
            Kit.is(x, x.sets(0, 0, 0), 256);
            x.write(0, 0, 64);
            x.write(0, 1, 5);
            x.write(0, 2, 7);
            Kit.is(x, x.sets(0, 1, 0), 128);
            Kit.is(x, x.sure(0, 1, 0), 128);
        });
        Edge.of("Promise 49", "(1; 2; 3; 5).", () -> {
            refused();
            for (int slips : new int[] {-1, 21, Integer.MIN_VALUE, Integer.MAX_VALUE}) {
                Edge.none(1, x -> x.sets(3, 1, slips));
                Edge.none(1, x -> x.sets(2, 1, slips));
            }
            // The last number of a three is missing.
            CageLeave x = Kit.park(Kit.ZOO);
            x.tray(0, 0, 5);
            Kit.none(x, x.sets(0, 2, 0), 3);
            x.tray(0, 0, 6);
            Kit.none(x, x.sets(0, 2, 0), 5);
            x = Kit.park("place z;place s;");
            tell(x, 1, 1, 0);
            Kit.none(x, x.sets(0, 1, 0), 5);
            x = Kit.park("place z;beast b;");
            tell(x, 1, 0, 0);
            Kit.none(x, x.sets(0, 1, 0), 5);
            tell(x, 1, 1, 0);
            Kit.none(x, x.sets(0, 1, 0), 5);
            // A number of 64 bits is no HOUR by its last bits.
            x = Edge.rich();
            x.write(3, 0, (1L << 32) + 10);
            Kit.none(x, x.sets(3, 1, 0), 5);
            x.write(3, 0, 10);
            x.write(3, 1, (1L << 32) + 1);
            Kit.none(x, x.sets(3, 1, 0), 5);
            x.write(3, 1, 1);
            x.write(3, 2, 1L << 40);
            Kit.none(x, x.sets(3, 1, 0), 5);
            x.write(3, 2, 0);
            Kit.is(x, x.sets(3, 1, 0), 2);
        });
    }

    private static void sure() {
        Edge.of("Promise 50", "SURE by that: a set (1; 2; 3; 5; 6: by no set).", () -> {
            for (int slips : new int[] {-1, 21, Integer.MIN_VALUE, Integer.MAX_VALUE}) {
                Edge.none(1, x -> x.sure(3, 1, slips));
                Edge.none(1, x -> x.sure(2, 1, slips));
            }
            Edge.none(() -> told(Kit.ZOO, 0, 1, 0), 6, x -> x.sure(0, 1, 0));
            CageLeave x = told(Kit.ZOO, 0, 1, 0);
            Kit.is(x, x.sure(0, 1, 1), 0);
            Kit.is(x, x.sure(0, 1, 20), 0);
            Edge.none(() -> told(Kit.ZOO, 20, 1, 1, 10, 1, 0), 6, y -> y.sure(0, 2, 0));
            x = new CageLeave();
            x.tray(0, 0, 0);
            Kit.is(x, x.sure(0, 0, 20), 0);
            // By one set alone all in it are SURE.
            x = told(Edge.FULL, 9, 1, 0, 9, 2, 1, 9, 3, 2, 9, 4, 3, 9, 5, 4, 9, 1, 5, 9, 2, 6, 25, 5, 7);
            Kit.is(x, x.sets(0, 8, 0), 1);
            Kit.is(x, x.sure(0, 8, 0), 255);
            Kit.is(x, x.sure(0, 7, 0), 127);
            Kit.is(x, x.sets(0, 8, 1), 9);
            Kit.is(x, x.sure(0, 8, 1), 0);
        });
    }

    private static void slips() {
        Edge.of("Promise 51", "The fewest SLIPS by which there is a set (1; 2; 3; 5).", () -> {
            CageLeave x = told(Kit.ZOO, 0, 1, 0, 0, 1, 1, 10, 1, 0);
            Kit.is(x, x.slips(0, 0), 0);
            Kit.is(x, x.slips(0, 1), 1);
            Kit.is(x, x.slips(0, 2), 2);
            Kit.is(x, x.slips(0, 3), 2);
            x.tray(1, 0, 60);
            for (int i = 0; i < 60; i += 3) {
                x.write(1, i, 0);
                x.write(1, i + 1, 2);
                x.write(1, i + 2, 2);
            }
            for (int n = 0; n <= 20; n++) { Kit.is(x, x.slips(1, n), n); }
            Kit.none(x, x.slips(1, 21), 1);
            x = new CageLeave();
            x.tray(0, 0, 0);
            Kit.is(x, x.slips(0, 0), 0);
        });
    }
}
