/** Sentences of "Terms" 1 and 5 on TRAYS and STATUS, promises 1 to 8 and 52. */
final class EdgesOfTrays {
    private static final int[] NO_TRAY = {Integer.MIN_VALUE, -1, 4, Integer.MAX_VALUE};
    private static final long[] GREATEST = {127, 32767, Integer.MAX_VALUE, Long.MAX_VALUE};

    private EdgesOfTrays() { }

    static void go() {
        terms();
        fresh();
        fraction();
        tray();
        write();
        read();
        pour();
        pourOrder();
        copyPlaces();
        status();
        nothingElse();
    }

    private static CageLeave laid(int sort, int many) {
        CageLeave x = new CageLeave();
        x.tray(0, sort, many);
        return x;
    }

    private static void row(CageLeave x, int tray, long... due) {
        for (int i = 0; i < due.length; i++) { Kit.is(x, x.read(tray, i), due[i]); }
        Kit.none(x, x.read(tray, due.length), 3);
    }

    private static void terms() {
        Edge.of("Terms 1", "TRAYS 0 to 3 are MISSING at first,", () -> {
            for (int t = 0; t <= 3; t++) {
                CageLeave x = new CageLeave();
                Kit.none(x, x.read(t, 0), 2);
                Kit.not(x, x.write(t, 0, 1), 2);
                Kit.not(x, x.pour(t, 0, t, 0, 0), 2);
                Kit.none(x, x.copyPlaces(t), 2);
                Kit.none(x, x.sets(t, 0, 0), 2);
                Kit.none(x, x.sure(t, 0, 0), 2);
                Kit.none(x, x.slips(t, 0), 2);
                Kit.yes(x, x.tray(t, 0, 1));
                Kit.is(x, x.read(t, 0), 0);
                for (int other = 0; other <= 3; other++) {
                    if (other != t) { Kit.none(x, x.read(other, 0), 2); }
                }
            }
            for (int t : NO_TRAY) {
                Edge.not(1, x -> x.tray(t, 0, 1));
                Edge.not(1, x -> x.write(t, 0, 1));
                Edge.none(1, x -> x.read(t, 0));
            }
        });
        Edge.of("Terms 1", "or rows of 0 to 60 numbers", () -> {
            for (int sort = 0; sort < 4; sort++) {
                for (int many : new int[] {0, 1, 59, 60}) {
                    CageLeave x = new CageLeave();
                    Kit.yes(x, x.tray(0, sort, many));
                    Kit.none(x, x.read(0, many), 3);
                    Kit.not(x, x.write(0, many, 1), 3);
                    if (many > 0) {
                        Kit.yes(x, x.write(0, many - 1, 1));
                        Kit.is(x, x.read(0, many - 1), 1);
                    }
                }
            }
            for (int many : new int[] {Integer.MIN_VALUE, -1, 61, Integer.MAX_VALUE}) { Edge.not(1, x -> x.tray(0, 0, many)); }
        });
        Edge.of("Terms 1", "of 8 bits (sort 0), 16 (1), 32 (2) or 64 (3).", () -> {
            for (int sort = 0; sort < 4; sort++) {
                CageLeave x = laid(sort, 1);
                for (long v : new long[] {0, 1, -1, GREATEST[sort], -GREATEST[sort] - 1}) {
                    Kit.yes(x, x.write(0, 0, v));
                    Kit.is(x, x.read(0, 0), v);
                }
            }
            for (int sort : NO_TRAY) { Edge.not(1, x -> x.tray(0, sort, 1)); }
        });
    }

    private static void fresh() {
        Edge.of("Promise 1", "A PARK of no PLACES, TRAINS, BEASTS;", () -> {
            CageLeave x = new CageLeave();
            for (int what = 0; what <= 2; what++) { Kit.is(x, x.told(what), 0); }
            for (int what = 6; what <= 10; what++) { Kit.is(x, x.told(what), 0); }
            Kit.none(x, x.there(0), 1);
            Kit.none(x, x.train(0, 0), 1);
            Kit.none(x, x.beast(0, 0), 1);
            Kit.none(x, x.at(0), 1);
            Kit.none(x, x.reach(), 6);
            Kit.is(x, x.most(), 0);
            Kit.is(x, x.peace(0), 1);
            Kit.none(x, x.peace(1), 1);
            Kit.is(x, x.lateBy(), 0);
        });
        Edge.of("Promise 1", "ODDS 2; WEEK 0, HOUR 0;", () -> {
            CageLeave x = new CageLeave();
            Kit.is(x, x.told(3), 2);
            Kit.is(x, x.told(4), 0);
            Kit.is(x, x.told(5), 0);
        });
        Edge.of("Promise 1", "no WEEKS, MARKS;", () -> {
            CageLeave x = new CageLeave();
            Kit.none(x, x.live(0), 6);
            Kit.not(x, x.mean(0, 1), 6);
            Kit.none(x, x.undo(), 6);
            Kit.is(x, x.mark(), 1);
        });
        Edge.of("Promise 1", "TRAYS are MISSING;", () -> {
            CageLeave x = new CageLeave();
            for (int t = 0; t <= 3; t++) { Kit.none(x, x.read(t, 0), 2); }
        });
        Edge.of("Promise 1", "an empty tape;", () -> {
            CageLeave x = new CageLeave();
            Kit.none(x, x.park(1), 1);
            Kit.none(x, x.weeks(1), 1);
            Kit.due(x.feed(0, 0, 0, 0, 0), 20);
        });
        Edge.of("Promise 1", "the FRACTION 0 by 1; STATUS 0.", () -> {
            CageLeave x = new CageLeave();
            Kit.due(x.status(), 0);
            Kit.due(x.top(), 0);
            Kit.due(x.bottom(), 1);
        });
    }

    private static void fraction() {
        Edge.of("Promise 2", "STATUS of the latest call that has one.", () -> {
            CageLeave x = new CageLeave();
            int[] due = {1, 2, 3, 4, 6, 7, 8, 9, 0};
            for (int round = 0; round < 2; round++) {
                for (int why : due) {
                    brings(x, why);
                    Kit.due(x.status(), why);
                    Kit.due(x.status(), why);
                }
            }
        });
        Edge.of("Promise 3", "The top of the FRACTION told latest.", () -> {
            CageLeave x = Edge.rich();
            toldBy(x, 3, 1, 7, 8);
            toldBy(x, 3, 2, 3, 8);
            Kit.fraction(x, x.snow(0), 1, 1);
            Kit.yes(x, x.mean(0, 1));
            Kit.due(x.top(), 1);
            toldBy(x, 0, 1, 0, 1);
        });
        Edge.of("Promise 4", "Its bottom, above 0.", () -> {
            CageLeave x = new CageLeave();
            Kit.due(x.bottom(), 1);
            Kit.fraction(x, x.back(0, 0), 1, 1);
            Kit.fraction(x, x.back(0, 1), 0, 1);
            x = Edge.rich();
            Kit.fraction(x, x.back(4, 0), 1, 1);
            Kit.fraction(x, x.back(4, 1), 15, 16);
            Kit.fraction(x, x.back(4, 2), 0, 1);
        });
    }

    /** A BACK, and calls behind it by which no FRACTION is told. */
    private static void toldBy(CageLeave x, int set, int k, long top, long bottom) {
        Kit.fraction(x, x.back(set, k), top, bottom);
        Kit.not(x, x.back(8, 0), 1);
        Kit.not(x, x.snow(3), 1);
        Kit.not(x, x.mean(0, 21), 1);
        Kit.is(x, x.told(0), 3);
        Kit.due(x.top(), top);
        Kit.due(x.bottom(), bottom);
    }

    /** A call with a STATUS on an object of no PLACES. */
    private static void brings(CageLeave x, int why) {
        switch (why) {
            case 1: x.told(11); break;
            case 2: x.read(3, 0); break;
            case 3: x.tray(0, 0, 1); x.read(0, 1); break;
            case 4: x.hour(64); x.hour(1); break;
            case 6: x.reach(); break;
            case 7: x.hour(64); x.monday(); x.monday(); break;
            case 8: x.tray(0, 0, 1); x.tray(1, 1, 1); x.pour(0, 0, 1, 0, 1); break;
            case 9: Kit.tellPark(x, ";"); break;
            default: x.told(0);
        }
    }

    private static void tray() {
        Edge.of("Promise 5", "A TRAY is a row of so many 0s (1).", () -> {
            CageLeave x = new CageLeave();
            Kit.yes(x, x.tray(0, 3, 60));
            for (int i = 0; i < 60; i++) { Kit.yes(x, x.write(0, i, i + 1)); }
            Kit.yes(x, x.tray(0, 3, 0));
            row(x, 0);
            Kit.yes(x, x.tray(0, 3, 60));
            long[] noughts = new long[60];
            row(x, 0, noughts);
            Kit.yes(x, x.write(0, 1, 5));
            Kit.yes(x, x.tray(0, 0, 3));
            row(x, 0, 0, 0, 0);
            Edge.not(1, y -> y.tray(4, 0, 1));
            Edge.not(1, y -> y.tray(-1, 0, 1));
            Edge.not(1, y -> y.tray(0, 4, 1));
            Edge.not(1, y -> y.tray(0, -1, 1));
            Edge.not(1, y -> y.tray(0, 0, 61));
            Edge.not(1, y -> y.tray(0, 0, -1));
            Edge.not(1, y -> y.tray(2, 0, 61));
        });
    }

    private static void write() {
        Edge.of("Promise 6", "A number comes to a place of a TRAY, cut to its sort", () -> {
            for (int sort = 0; sort < 4; sort++) {
                CageLeave x = laid(sort, 3);
                long most = GREATEST[sort];
                long[][] cut = {{most + 1, -most - 1}, {-most - 2, most}, {2 * most + 1, -1}, {2 * most + 2, 0},
                    {-2 * most - 2, 0}, {most, most}, {-most - 1, -most - 1}};
                for (long[] c : cut) {
                    Kit.yes(x, x.write(0, 1, c[0]));
                    row(x, 0, 0, c[1], 0);
                }
            }
            CageLeave x = laid(2, 1);
            Kit.yes(x, x.write(0, 0, Long.MAX_VALUE));
            row(x, 0, -1);
            Kit.yes(x, x.write(0, 0, Long.MIN_VALUE));
            row(x, 0, 0);
        });
        Edge.of("Promise 6", "(1, 2, 3).", () -> {
            for (int t : NO_TRAY) { Edge.not(1, x -> x.write(t, 0, 9)); }
            Edge.not(2, x -> x.write(2, 0, 9));
            for (int place : new int[] {5, -1, Integer.MAX_VALUE, Integer.MIN_VALUE}) {
                Edge.not(3, x -> x.write(0, place, 9));
                Edge.not(2, x -> x.write(2, place, 9));
                Edge.not(1, x -> x.write(4, place, 9));
            }
            CageLeave x = Edge.rich();
            Kit.yes(x, x.write(0, 0, 9));
            Kit.yes(x, x.write(0, 4, 9));
            row(x, 0, 9, 2, 3, 4, 9);
            Edge.not(() -> laid(0, 0), 3, y -> y.write(0, 0, 9));
            Edge.not(() -> laid(0, 60), 3, y -> y.write(0, 60, 9));
        });
    }

    private static void read() {
        Edge.of("Promise 7", "The number in a place of a TRAY; STATUS tells NONE from -1", () -> {
            for (int sort = 0; sort < 4; sort++) {
                CageLeave x = laid(sort, 60);
                Kit.yes(x, x.write(0, 59, -1));
                Kit.yes(x, x.write(0, 0, -1));
                Kit.is(x, x.read(0, 59), -1);
                Kit.is(x, x.read(0, 0), -1);
                Kit.is(x, x.read(0, 1), 0);
                Kit.none(x, x.read(0, 60), 3);
            }
        });
        Edge.of("Promise 7", "(1, 2, 3).", () -> {
            for (int t : NO_TRAY) { Edge.none(1, x -> x.read(t, 0)); }
            Edge.none(2, x -> x.read(2, 0));
            for (int place : new int[] {5, -1, Integer.MAX_VALUE, Integer.MIN_VALUE}) {
                Edge.none(3, x -> x.read(0, place));
                Edge.none(2, x -> x.read(2, place));
                Edge.none(1, x -> x.read(-1, place));
            }
            Edge.none(() -> laid(0, 0), 3, x -> x.read(0, 0));
        });
    }

    private static CageLeave twoRows() {
        CageLeave x = new CageLeave();
        x.tray(0, 1, 5);
        x.tray(1, 1, 3);
        for (int i = 0; i < 5; i++) { x.write(0, i, 300 + i); }
        return x;
    }

    private static void pour() {
        Edge.of("Promise 8", "So many numbers of a TRAY, from a place on, come to another one's (or its own) place on, as they were", () -> {
            CageLeave x = twoRows();
            Kit.yes(x, x.pour(0, 0, 1, 0, 1));
            row(x, 1, 300, 0, 0);
            Kit.yes(x, x.pour(0, 4, 1, 2, 1));
            row(x, 1, 300, 0, 304);
            Kit.yes(x, x.pour(0, 2, 1, 0, 3));
            row(x, 1, 302, 303, 304);
            Kit.yes(x, x.pour(0, 0, 1, 0, 0));
            Kit.yes(x, x.pour(0, 4, 1, 2, 0));
            row(x, 1, 302, 303, 304);
            row(x, 0, 300, 301, 302, 303, 304);
            Kit.yes(x, x.pour(1, 1, 0, 3, 2));
            row(x, 0, 300, 301, 302, 303, 304);
            Kit.yes(x, x.pour(0, 0, 0, 1, 4));
            row(x, 0, 300, 300, 301, 302, 303);
            Kit.yes(x, x.pour(0, 1, 0, 0, 4));
            row(x, 0, 300, 301, 302, 303, 303);
            Kit.yes(x, x.pour(0, 0, 0, 0, 5));
            row(x, 0, 300, 301, 302, 303, 303);
            x.tray(2, 3, 60);
            x.tray(3, 3, 60);
            x.write(2, 59, Long.MIN_VALUE);
            x.write(2, 0, -1);
            Kit.yes(x, x.pour(2, 0, 3, 0, 60));
            Kit.is(x, x.read(3, 59), Long.MIN_VALUE);
            Kit.is(x, x.read(3, 0), -1);
        });
    }

    private static void pourOrder() {
        Edge.of("Promise 8", "(1: below 0, too;", () -> {
            for (int t : NO_TRAY) {
                Edge.not(1, x -> x.pour(t, 0, 0, 0, 1));
                Edge.not(1, x -> x.pour(0, 0, t, 0, 1));
            }
            for (int v : new int[] {-1, Integer.MIN_VALUE}) {
                Edge.not(1, x -> x.pour(0, v, 1, 0, 1));
                Edge.not(1, x -> x.pour(0, 0, 1, v, 1));
                Edge.not(1, x -> x.pour(0, 0, 1, 0, v));
            }
        });
        Edge.of("Promise 8", "2; 8; 3;", () -> {
            Edge.not(2, x -> x.pour(2, 0, 0, 0, 1));
            Edge.not(2, x -> x.pour(0, 0, 2, 0, 1));
            Edge.not(8, x -> x.pour(0, 0, 3, 0, 1));
            Edge.not(8, x -> x.pour(3, 0, 0, 0, 1));
            Edge.not(3, x -> x.pour(0, 5, 1, 0, 1));
            Edge.not(3, x -> x.pour(0, 4, 1, 0, 2));
            Edge.not(3, x -> x.pour(0, 0, 1, 0, 3));
            Edge.not(3, x -> x.pour(0, 0, 1, 1, 2));
            Edge.not(3, x -> x.pour(0, 0, 1, 2, 1));
            Edge.not(3, x -> x.pour(1, 0, 0, 0, 3));
            Edge.not(3, x -> x.pour(0, 0, 0, 1, 5));
            Edge.not(3, x -> x.pour(0, 0, 1, 0, Integer.MAX_VALUE));
            Edge.not(3, x -> x.pour(0, Integer.MAX_VALUE, 1, 0, 1));
            Edge.not(3, x -> x.pour(0, 1, 1, Integer.MAX_VALUE, 1));
            Edge.not(3, x -> x.pour(0, Integer.MAX_VALUE, 1, 1, Integer.MAX_VALUE));
        });
        Edge.of("Promise 8", "asked in this order).", () -> {
            // Each call has several of the faults; the first of them in this order is told.
            Edge.not(1, x -> x.pour(2, -1, 0, 0, 1));
            Edge.not(1, x -> x.pour(2, 0, 4, 0, 1));
            Edge.not(1, x -> x.pour(0, 0, 3, 0, -1));
            Edge.not(1, x -> x.pour(0, 9, 1, -1, 9));
            Edge.not(2, x -> x.pour(2, 0, 3, 0, 99));
            Edge.not(2, x -> x.pour(3, 99, 2, 0, 1));
            Edge.not(8, x -> x.pour(0, 99, 3, 0, 1));
            Edge.not(8, x -> x.pour(0, 0, 3, 0, 99));
        });
    }

    private static void copyPlaces() {
        Edge.of("Promise 52", "Where BEASTS are, as at() tells, NONE if EATEN, comes to a TRAY, one by one: how many", () -> {
            for (int sort = 0; sort < 4; sort++) {
                CageLeave x = Edge.rich();
                Kit.yes(x, x.tray(2, sort, 3));
                Kit.is(x, x.copyPlaces(2), 3);
                row(x, 2, 10, -1, 11);
                Kit.yes(x, x.tray(2, sort, 4));
                Kit.yes(x, x.write(2, 3, 99));
                Kit.is(x, x.hour(2), 0);
                Kit.is(x, x.copyPlaces(2), 3);
                row(x, 2, 1, -1, 2, 99);
            }
            CageLeave x = new CageLeave();
            Kit.yes(x, x.tray(0, 0, 0));
            Kit.is(x, x.copyPlaces(0), 0);
            x = Kit.park(Edge.FULL);
            Kit.yes(x, x.tray(3, 0, 8));
            Kit.is(x, x.copyPlaces(3), 8);
            row(x, 3, 0, 0, 0, 0, 0, 0, 0, 0);
            Kit.is(x, x.hour(6), 0);
            Kit.is(x, x.copyPlaces(3), 8);
            row(x, 3, 1, 2, 3, 4, 5, 15, 16, 17);
            x.hour(3);
            x.hunt(0, 5, true);
            Kit.is(x, x.hour(1), 32);
            Kit.is(x, x.copyPlaces(3), 8);
            row(x, 3, 1, 2, 3, 4, 5, -1, 2, 17);
        });
        Edge.of("Promise 52", "(1; 2; 3).", () -> {
            for (int t : NO_TRAY) { Edge.none(1, x -> x.copyPlaces(t)); }
            Edge.none(2, x -> x.copyPlaces(2));
            Edge.none(3, x -> x.copyPlaces(1));
            Edge.none(() -> full(7), 3, x -> x.copyPlaces(0));
            CageLeave x = full(8);
            Kit.is(x, x.copyPlaces(0), 8);
            Edge.none(() -> full(-1), 2, y -> y.copyPlaces(0));
        });
    }

    private static CageLeave full(int many) {
        CageLeave x = Kit.park(Edge.FULL);
        if (many >= 0) { x.tray(0, 0, many); }
        return x;
    }

    private static void status() {
        Edge.of("Terms 5", "STATUS of a call is the first of these that holds:", () -> {
            Edge.none(1, x -> x.sets(-1, 99, 0));
            Edge.none(1, x -> x.sets(2, 21, 0));
            Edge.none(2, x -> x.sets(2, 20, 0));
            Edge.none(3, x -> x.sets(0, 2, 0));
            Edge.none(5, x -> x.sets(0, 1, 0));
            Edge.none(1, x -> x.hour(65));
            Edge.none(4, x -> x.hour(64));
            Edge.none(1, x -> x.peace(10));
            Edge.none(7, x -> x.peace(2));
            Edge.none(1, x -> x.soonestBy(0, 64, 0));
            Edge.none(7, x -> x.soonestBy(0, 63, 0));
        });
        Edge.of("Terms 5", "1 a number that can't be; no such TRAY, PLACE, TRAIN, BEAST; a set with what there is none of.", () -> {
            Edge.none(1, x -> x.told(11));
            Edge.none(1, x -> x.read(4, 0));
            Edge.none(1, x -> x.there(3));
            Edge.none(1, x -> x.train(5, 0));
            Edge.none(1, x -> x.beast(3, 0));
            Edge.none(1, x -> x.wildest(8));
            Edge.none(1, x -> x.wildest(9));
            Edge.none(1, x -> x.wildest(-8));
            Edge.none(() -> Kit.park(Edge.FULL), 1, x -> x.wildest(256));
            CageLeave x = Kit.park(Edge.FULL);
            Kit.is(x, x.wildest(255), 0);
            Kit.is(x, x.wildest(128), 7);
        });
        Edge.of("Terms 5", "2 the TRAY is MISSING.", () -> {
            Edge.none(2, x -> x.read(2, 0));
            Edge.none(2, x -> x.slips(2, 0));
        });
        Edge.of("Terms 5", "3 a place that the TRAY has not, or too few numbers.", () -> {
            Edge.none(3, x -> x.read(1, 2));
            Edge.none(3, x -> x.copyPlaces(1));
            Edge.none(3, x -> x.slips(3, 3));
            CageLeave x = Edge.rich();
            Kit.is(x, x.read(1, 1), 8);
            Kit.is(x, x.copyPlaces(0), 3);
            Kit.is(x, x.slips(3, 2), 0);
        });
        Edge.of("Terms 5", "4 one too many.", () -> {
            Edge.none(4, x -> x.hour(60));
            Edge.none(EdgesOfTrays::threeMarks, 4, x -> x.mark());
            CageLeave x = Edge.rich();
            Kit.is(x, x.hour(59), 0);
            Kit.is(x, x.mark(), 3);
        });
        Edge.of("Terms 5", "5 a number in a TRAY that can't be.", () -> {
            Edge.none(5, x -> x.slips(0, 1));
            CageLeave x = Edge.rich();
            Kit.is(x, x.slips(0, 0), 0);
        });
        Edge.of("Terms 5", "6 there is none such.", () -> {
            Edge.none(6, x -> x.at(1));
            Edge.none(6, x -> x.wildest(0));
            Edge.none(CageLeave::new, 6, x -> x.undo());
        });
        Edge.of("Terms 5", "7 it can't be.", () -> {
            Edge.none(7, x -> x.monday());
            Edge.not(7, x -> x.halt(4, true));
        });
        Edge.of("Terms 5", "8 TRAYS are of unlike sorts.", () -> {
            for (int a = 0; a < 4; a++) {
                for (int b = 0; b < 4; b++) {
                    CageLeave x = laid(a, 1);
                    x.tray(1, b, 1);
                    Kit.due(x.pour(0, 0, 1, 0, 1), a == b);
                    Kit.due(x.status(), a == b ? 0 : 8);
                }
            }
        });
        Edge.of("Terms 5", "9 a FAULT. 0 else.", () -> {
            CageLeave x = Edge.rich();
            x.park(0);
            Kit.none(x, Kit.tellPark(x, "place p"), 9);
            Kit.is(x, Kit.tellPark(x, "place p;"), 0);
            Kit.none(x, Kit.tellWeeks(x, "any"), 9);
            Kit.is(x, Kit.tellWeeks(x, "any;"), 1);
        });
    }

    private static CageLeave threeMarks() {
        CageLeave x = Edge.rich();
        x.mark();
        return x;
    }

    private static void nothingElse() {
        Edge.of("Terms 5", "With another STATUS than 0 a call gives NONE, or false, and changes nothing else", () -> {
            Edge.none(1, x -> x.park(21));
            Edge.none(1, x -> x.weeks(21));
            Edge.none(1, x -> x.live(10000));
            Edge.not(1, x -> x.mean(9999, 2));
            Edge.not(1, x -> x.back(8, 1));
            Edge.not(1, x -> x.trust(0, 17));
            Edge.not(7, x -> x.shift(0, 9));
        });
        Edge.of("Terms 5", "(but park(), weeks() with 9 the tape, and what fault() tells).", () -> {
            for (int call = 0; call < 2; call++) {
                CageLeave x = Edge.rich();
                CageLeave y = Edge.rich();
                // The 19 bytes have no sign behind the last part; as WEEKS they can't stand at all.
                Kit.none(x, call == 0 ? x.park(19) : x.weeks(19), 9);
                Kit.due(x.fault(0), 2);
                Kit.due(x.fault(1), call == 0 ? 19 : 0);
                Kit.none(x, x.park(1), 1);
                Kit.due(x.feed(0, 0, 0, 0, 0), 20);
                x.weeks(0);
                y.weeks(0);
                Kit.same(Edge.left(x), Edge.left(y));
            }
        });
        Edge.of("Terms 5", "status(), top(), bottom(), feed(), fault() have none.", () -> {
            CageLeave x = Edge.rich();
            for (int round = 0; round < 2; round++) {
                if (round == 0) { Kit.none(x, x.at(1), 6); } else { Kit.is(x, x.at(0), 10); }
                int status = x.status();
                x.top();
                Kit.due(x.status(), status);
                x.bottom();
                Kit.due(x.status(), status);
                x.fault(9);
                x.fault(0);
                Kit.due(x.status(), status);
                for (int i = 0; i < 46; i++) { x.feed(0, 0, 0, 0, 0); }
                Kit.due(x.feed(0, 0, 0, 0, 0), -1);
                Kit.due(x.status(), status);
            }
        });
    }
}
