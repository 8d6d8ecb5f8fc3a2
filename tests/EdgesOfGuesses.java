/** Sentences of "Terms" 3 and promises 29 to 51. */
final class EdgesOfGuesses {
    private static final int[] NO_BEAST = {Integer.MIN_VALUE, -1, 3, Integer.MAX_VALUE};
    private static final int[] NO_SET = {Integer.MIN_VALUE, -1, 8, 9, 256, Integer.MAX_VALUE};

    private EdgesOfGuesses() { }

    static void go() {
        where();
        eaten();
        meet();
        lateBy();
        lettingOut();
        most();
        ways();
        soonest();
        soonestBy();
        latest();
        stay();
        reach();
        cut();
        snow();
        back();
        wildest();
        rooms();
        roomSize();
        EdgesOfParrots.go();
    }

    private static void where() {
        Edge.of("Terms 3", "As it goes on from now to HOUR 64 of this WEEK, nothing else done:", () -> {
            CageLeave x = Kit.park(Kit.ZOO);
            for (int t = 0; t <= 64; t++) {
                CageLeave y = Edge.at(Kit.ZOO, t);
                for (int b = 0; b < 3; b++) { Kit.due(x.where(b, t), y.at(b)); }
            }
            Kit.is(x, x.told(5), 0);
            Kit.is(x, x.there(0), 7);
            // What is done later is not asked; what was done is.
            x.let(0, false);
            Kit.is(x, x.where(0, 64), 0);
            Kit.is(x, x.where(1, 64), 1);
            x.halt(1, true);
            Kit.is(x, x.where(1, 64), 0);
            // Of this WEEK: on the next one nothing is told.
            x = Edge.at(Edge.RIDE, 64);
            Kit.is(x, x.where(0, 64), 1);
            x.monday();
            Kit.is(x, x.where(0, 0), 0);
            Kit.is(x, x.where(0, 1), 10);
        });
        Edge.of("Terms 3", "WHERE somebody is at an HOUR (no sooner than now; at HOUR t: when t is HOUR, ahead of what goes by in it:"
            + " who arrives at t is on the TRAIN still, at HOUR 64, too);", () -> {
            CageLeave x = Kit.park(Edge.RIDE);
            Kit.is(x, x.where(0, 0), 0);
            Kit.is(x, x.where(0, 1), 10);
            Kit.is(x, x.where(0, 5), 10);
            Kit.is(x, x.where(0, 6), 1);
            for (int takes = 1; takes <= 3; takes++) {
                x = Kit.park(Edge.ZS + "train a from z to s at 62 takes " + takes + ";beast m out;ticket m a;");
                Kit.is(x, x.where(0, 62), 0);
                Kit.is(x, x.where(0, 63), 10);
                Kit.is(x, x.where(0, 64), takes == 1 ? 1 : 10);
                x.hour(64);
                Kit.is(x, x.where(0, 64), takes == 1 ? 1 : 10);
            }
        });
        Edge.of("Promise 29", "WHERE: as at() (1: an HOUR that is gone, above 64, too; 6: EATEN by then).", () -> {
            CageLeave x = Edge.rich();
            Kit.is(x, x.where(0, 5), 10);
            Kit.is(x, x.where(0, 6), 1);
            Kit.is(x, x.where(2, 64), 2);
            for (int t : new int[] {4, 0, -1, 65, Integer.MIN_VALUE, Integer.MAX_VALUE}) {
                Edge.none(1, y -> y.where(0, t));
                Edge.none(1, y -> y.where(1, t));
            }
            for (int b : NO_BEAST) { Edge.none(1, y -> y.where(b, 5)); }
            Edge.none(6, y -> y.where(1, 5));
            Edge.none(6, y -> y.where(1, 64));
            // EATEN in HOUR 12: then it is there still.
            x = Kit.park(Kit.ZOO);
            Kit.is(x, x.where(1, 12), 12);
            Edge.none(() -> Kit.park(Kit.ZOO), 6, y -> y.where(1, 13));
            Edge.none(() -> Kit.park(Kit.ZOO), 6, y -> y.where(1, 64));
            Edge.none(() -> Edge.at(Edge.RIDE, 64), 1, y -> y.where(0, 63));
            Edge.none(CageLeave::new, 1, y -> y.where(0, 0));
            x = Kit.park(Edge.FULL);
            for (int b = 0; b < 8; b++) { Kit.is(x, x.where(b, 1), 10 + b); }
        });
    }

    private static void eaten() {
        Edge.of("Promise 30", "At which HOUR a BEAST is EATEN, that which goes by then (1; 6: not in this WEEK, or already).", () -> {
            for (int t : new int[] {0, 1, 62, 63}) {
                CageLeave x = Kit.park(Edge.ZS + "train a from z to s at " + t + " takes 5;beast m out;beast n out;ticket m a;ticket n a;hunts m n;");
                Kit.is(x, x.eatenAt(1), t);
                if (t > 0) { x.hour(t); }
                Kit.is(x, x.eatenAt(1), t);
                x.hour(1);
                Kit.none(x, x.eatenAt(1), 6);
            }
            for (int b : NO_BEAST) { Edge.none(1, y -> y.eatenAt(b)); }
            Edge.none(6, y -> y.eatenAt(0));
            Edge.none(6, y -> y.eatenAt(1));
            Edge.none(() -> Edge.at(Kit.ZOO, 64), 6, y -> y.eatenAt(1));
            Edge.none(CageLeave::new, 1, y -> y.eatenAt(0));
            // Not in this WEEK, but in the next one.
            CageLeave x = Edge.at(Edge.RIDE, 64);
            x.hunt(0, 1, true);
            Kit.none(x, x.eatenAt(1), 6);
            x.monday();
            Kit.is(x, x.eatenAt(1), 0);
        });
        Edge.of("Promise 31", "By whom (1; 6).", () -> {
            CageLeave x = Kit.park(Edge.RIDE + "hunts p m;hunts o m;hunts m n;");
            Kit.is(x, x.eater(0), 2);
            Kit.none(x, x.eater(1), 6);
            Kit.none(x, x.eater(2), 6);
            x = Kit.park(Kit.ZOO);
            Kit.is(x, x.eater(1), 0);
            x = Kit.park(Edge.RIDE + "hunts p m;");
            Kit.is(x, x.eater(0), 3);
            for (int b : NO_BEAST) { Edge.none(1, y -> y.eater(b)); }
            Edge.none(6, y -> y.eater(0));
            Edge.none(6, y -> y.eater(1));
            Edge.none(() -> Edge.at(Kit.ZOO, 13), 6, y -> y.eater(1));
            Edge.none(CageLeave::new, 1, y -> y.eater(0));
        });
    }

    private static void meet() {
        Edge.of("Terms 3", "MEET: the first such HOUR at which two are TOGETHER.", () -> {
            CageLeave x = Kit.park(Edge.RIDE);
            Kit.is(x, x.meet(0, 1), 1);
            x.hour(1);
            Kit.is(x, x.meet(0, 1), 1);
            x.hour(62);
            Kit.is(x, x.meet(0, 1), 63);
            x.hour(1);
            Kit.is(x, x.meet(0, 1), 64);
            x = Kit.park(Edge.ZS + "train a from z to s at 63 takes 1;beast m out;beast n out;ticket m a;ticket n a;");
            Kit.is(x, x.meet(1, 0), 64);
            // Who is there as the other one comes at t is seen with it at t and 1.
            x = Kit.park(Edge.ZS + "train a from z to s at 0 takes 5;train b from z to s at 1 takes 5;beast m out;beast n out;ticket m a;ticket n b;");
            Kit.is(x, x.meet(0, 1), 7);
        });
        Edge.of("Promise 32", "MEET (1: one and itself, too; 6: never).", () -> {
            for (int b : NO_BEAST) {
                Edge.none(1, y -> y.meet(b, 0));
                Edge.none(1, y -> y.meet(0, b));
                Edge.none(1, y -> y.meet(b, b));
            }
            for (int b = 0; b < 3; b++) {
                int same = b;
                Edge.none(1, y -> y.meet(same, same));
            }
            Edge.none(6, y -> y.meet(0, 1));
            Edge.none(6, y -> y.meet(0, 2));
            // In PLACE 0 nobody meets; nor does who is EATEN at once.
            Edge.none(() -> Kit.park(Edge.ZS + "beast m out;beast n out;"), 6, y -> y.meet(0, 1));
            Edge.none(() -> Kit.park(Edge.RIDE + "hunts m n;"), 6, y -> y.meet(0, 1));
            // What was is not asked.
            CageLeave x = Edge.at(Edge.ZS + "train a from z to s at 0 takes 1;train b from s to z at 2 takes 1;beast m out;beast n out;ticket m a b;ticket n a;", 2);
            Kit.is(x, x.meet(0, 1), 2);
            x.hour(1);
            Kit.none(x, x.meet(0, 1), 6);
        });
    }

    private static void lateBy() {
        Edge.of("Promise 33", "The set of BEASTS that would be LATE at the end of this WEEK.", () -> {
            String back = Edge.ZS + "train a from z to s at 0 takes 2;train b from s to z at 60 takes 4;train c from s to z at 61 takes 4;"
                + "beast m out;beast n out;beast o out;beast p;ticket m a b;ticket n a c;ticket o a;ticket p a;";
            for (int now : new int[] {0, 1, 30, 60, 63, 64}) {
                CageLeave x = Edge.at(back, now);
                Kit.is(x, x.lateBy(), 6);
                Kit.is(x, x.told(10), 0);
                Kit.is(x, x.told(4), 0);
                Kit.is(x, x.told(5), now);
            }
            CageLeave x = Edge.at(back, 64);
            Kit.is(x, x.monday(), 6);
            x.let(2, false);
            Kit.is(x, x.lateBy(), 2);
            // Who is EATEN ahead of it is not LATE.
            x = Kit.park(Edge.RIDE + "hunts m n;");
            Kit.is(x, x.lateBy(), 13);
            x = Edge.at(Edge.RIDE + "hunts m n;", 9);
            Kit.is(x, x.lateBy(), 13);
            x = Kit.park(Edge.FULL);
            Kit.is(x, x.lateBy(), 255);
            x = new CageLeave();
            Kit.is(x, x.lateBy(), 0);
        });
    }

    private static void lettingOut() {
        Edge.of("Terms 3", "LETTING OUT a set of BEASTS: as if it was HOUR 0, all not EATEN in PLACE 0, just these let OUT:", () -> {
            CageLeave x = Edge.at(Edge.RIDE + "hunts m n;hunts o p;", 64);
            // n and p are EATEN; m, o are in s now, and OUT.
            Kit.is(x, x.told(7), 10);
            x.hunt(0, 2, true);
            Kit.is(x, x.eatenBy(5), 4);
            Kit.is(x, x.eatenBy(1), 0);
            Kit.is(x, x.eatenBy(4), 0);
            Kit.is(x, x.eatenBy(0), 0);
            // HALTED ones stay so, TRAINS go AT the HOURS to which they were shifted.
            x.halt(0, true);
            Kit.is(x, x.eatenBy(5), 0);
            Kit.is(x, x.there(1), 5);
            Kit.is(x, x.told(6), 15);
            x = Edge.at(Edge.RIDE, 9);
            x.hunt(0, 1, true);
            Kit.is(x, x.eatenBy(3), 2);
            x.let(0, false);
            x.let(1, false);
            Kit.is(x, x.eatenBy(3), 2);
            Kit.is(x, x.eatenBy(2), 0);
        });
        Edge.of("Terms 3", "PEACE, if nobody is EATEN in the WEEK.", () -> {
            CageLeave x = Kit.park(Edge.RIDE + "hunts m n;");
            for (int set = 0; set < 16; set++) { Kit.is(x, x.peace(set), (set & 3) == 3 ? 0 : 1); }
            // In its first HOUR, and in its last one; at HOUR 64 nobody is.
            for (int t = 0; t <= 63; t += 21) {
                x = Kit.park(Edge.ZS + "train a from z to s at " + t + " takes 9;beast m;beast n;ticket m a;ticket n a;hunts n m;");
                Kit.is(x, x.peace(3), 0);
            }
            x = Kit.park(Edge.ZS + "train a from z to s at 40 takes 24;train b from z to s at 41 takes 22;beast m;beast n;ticket m a;ticket n b;hunts n m;");
            Kit.is(x, x.peace(3), 1);
            x.shift(0, 39);
            Kit.is(x, x.peace(3), 0);
        });
        Edge.of("Promise 34", "1 if LETTING OUT a set is in PEACE, else 0 (1; 7: an EATEN one in it).", () -> {
            CageLeave x = Edge.rich();
            Kit.is(x, x.peace(0), 1);
            Kit.is(x, x.peace(1), 1);
            Kit.is(x, x.peace(5), 1);
            for (int set : NO_SET) { Edge.none(1, y -> y.peace(set)); }
            for (int set : new int[] {2, 3, 6, 7}) { Edge.none(7, y -> y.peace(set)); }
            Edge.none(CageLeave::new, 1, y -> y.peace(1));
            Edge.none(() -> Kit.park(Edge.FULL), 1, y -> y.peace(256));
            x = Kit.park(Edge.FULL);
            Kit.is(x, x.peace(255), 1);
            x = new CageLeave();
            Kit.is(x, x.peace(0), 1);
        });
        Edge.of("Promise 35", "The set of BEASTS EATEN by LETTING OUT a set (1; 7).", () -> {
            CageLeave x = Kit.park(Kit.ZOO);
            int[] due = {0, 0, 0, 2, 0, 0, 0, 2};
            for (int set = 0; set < 8; set++) { Kit.is(x, x.eatenBy(set), due[set]); }
            x = Kit.park(Edge.RIDE + "hunts p o;hunts o n;hunts n m;");
            Kit.is(x, x.eatenBy(15), 7);
            Kit.is(x, x.eatenBy(13), 4);
            Kit.is(x, x.eatenBy(5), 0);
            // Who is EATEN already is none of them.
            x = Edge.rich();
            Kit.is(x, x.eatenBy(5), 0);
            for (int set : NO_SET) { Edge.none(1, y -> y.eatenBy(set)); }
            for (int set : new int[] {2, 3, 6, 7}) { Edge.none(7, y -> y.eatenBy(set)); }
            Edge.none(CageLeave::new, 1, y -> y.eatenBy(1));
        });
    }

    private static void most() {
        Edge.of("Terms 3", "MOST: the greatest set of BEASTS not EATEN that is let OUT in PEACE; of several the least as a number (1 for BEAST 0 ..).", () -> {
            String ark = Edge.ZS + "train a from z to s at 0 takes 5;beast m;beast n;beast o;beast p;ticket m a;ticket n a;ticket o a;ticket p a;";
            CageLeave x = Kit.park(ark);
            Kit.is(x, x.most(), 15);
            x = Kit.park(ark + "hunts m n;");
            Kit.is(x, x.most(), 13);
            x = Kit.park(ark + "hunts m n;hunts o p;");
            Kit.is(x, x.most(), 5);
            x = Kit.park(ark + "hunts m n;hunts m o;hunts m p;");
            Kit.is(x, x.most(), 14);
            x = Kit.park(ark + "hunts p m;hunts p n;hunts o m;hunts o n;");
            Kit.is(x, x.most(), 3);
            x = Kit.park(ark + "hunts m n;hunts m o;hunts m p;hunts n o;hunts n p;hunts o p;");
            Kit.is(x, x.most(), 1);
        });
        Edge.of("Promise 36", "MOST: a set.", () -> {
            CageLeave x = new CageLeave();
            Kit.is(x, x.most(), 0);
            x = Kit.park(Edge.FULL);
            Kit.is(x, x.most(), 255);
            x = Edge.rich();
            Kit.is(x, x.most(), 5);
            x.mourn(1);
            Kit.is(x, x.most(), 5);
            x.hunt(0, 1, false);
            Kit.is(x, x.most(), 7);
            Kit.is(x, x.told(5), 5);
            Kit.is(x, x.told(6), 7);
            // All are EATEN but the one that ate them.
            x = Edge.at(Edge.RIDE + "hunts p m;hunts p n;hunts p o;", 1);
            Kit.is(x, x.most(), 8);
        });
    }

    private static void ways() {
        Edge.of("Terms 3", "WAYS by TRAINS that are not HALTED, SEATS not asked, one after the other, each from the PLACE to which that ahead came,"
            + " AT an HOUR no sooner than that was there.", () -> {
            String way = "place z;place s;place r;train a from z to s at 3 takes 2 seats 1;train b from s to r at 5 takes 1 seats 1;";
            CageLeave x = Kit.park(way);
            Kit.is(x, x.soonest(0, 0, 2), 6);
            x.shift(1, 4);
            Kit.none(x, x.soonest(0, 0, 2), 6);
            x.shift(1, 6);
            Kit.is(x, x.soonest(0, 0, 2), 7);
            x.halt(0, true);
            Kit.none(x, x.soonest(0, 0, 2), 6);
            x.halt(0, false);
            x.halt(1, true);
            Kit.none(x, x.soonest(0, 0, 2), 6);
            Kit.is(x, x.soonest(0, 0, 1), 5);
            // SEATS are not asked: somebody sits on it just now.
            x = Edge.at(way + "beast m out;ticket m a;", 4);
            Kit.is(x, x.train(0, 6), 1);
            Kit.is(x, x.soonest(0, 0, 2), 6);
            Kit.is(x, x.cut(2), 1);
            // All eight, one after the other, told the last one first.
            StringBuilder s = new StringBuilder("place a;place b;");
            for (int i = 7; i >= 0; i--) {
                s.append("train ").append((char) ('c' + i)).append(i % 2 == 0 ? " from a to b at " : " from b to a at ").append(i).append(" takes 1;");
            }
            s.append("place y;");
            x = Kit.park(s.toString());
            Kit.is(x, x.soonest(0, 0, 1), 1);
            Kit.is(x, x.soonest(0, 1, 1), 3);
            Kit.is(x, x.soonest(1, 1, 0), 2);
            Kit.is(x, x.latest(0, 1, 7), 6);
            Kit.is(x, x.stay(1), 6);
        });
    }

    private static void soonest() {
        Edge.of("Terms 3", "SOONEST: at which HOUR one who is at a PLACE at an HOUR (0 to 63) can be at another one, 64 at the latest;", () -> {
            CageLeave x = Kit.park(Kit.NET);
            Kit.is(x, x.soonest(0, 0, 1), 10);
            Kit.is(x, x.soonest(0, 5, 1), 10);
            Kit.none(x, x.soonest(0, 6, 1), 6);
            Kit.is(x, x.soonest(2, 63, 0), 64);
            Kit.none(x, x.soonest(2, 63, 1), 6);
            Kit.is(x, x.soonest(1, 40, 0), 64);
            Kit.none(x, x.soonest(1, 41, 0), 6);
            x.shift(5, 41);
            Kit.none(x, x.soonest(1, 0, 0), 6);
        });
        Edge.of("Promise 37", "SOONEST (the HOUR itself, if it is the PLACE itself) (1; 6: not by HOUR 64).", () -> {
            CageLeave x = Kit.park(Kit.NET);
            for (int p = 0; p < 4; p++) {
                for (int t : new int[] {0, 1, 62, 63}) { Kit.is(x, x.soonest(p, t, p), t); }
            }
            for (int p : new int[] {-1, 3, Integer.MIN_VALUE, Integer.MAX_VALUE}) {
                Edge.none(1, y -> y.soonest(p, 0, 0));
                Edge.none(1, y -> y.soonest(0, 0, p));
                Edge.none(1, y -> y.soonest(p, 0, p));
            }
            for (int t : new int[] {-1, 64, Integer.MIN_VALUE, Integer.MAX_VALUE}) {
                Edge.none(1, y -> y.soonest(0, t, 1));
                Edge.none(1, y -> y.soonest(0, t, 0));
            }
            Edge.none(() -> Kit.park(Kit.NET), 6, y -> y.soonest(3, 0, 0));
            Edge.none(() -> Kit.park(Kit.NET), 6, y -> y.soonest(0, 6, 1));
            Edge.none(() -> Kit.park(Edge.ZS + "train a from z to s at 41 takes 24;"), 6, y -> y.soonest(0, 0, 1));
            x = Kit.park(Edge.ZS + "train a from z to s at 40 takes 24;");
            Kit.is(x, x.soonest(0, 0, 1), 64);
            Kit.is(x, x.soonest(0, 40, 1), 64);
            // The HOUR that it is now does not matter.
            x.hour(64);
            Kit.is(x, x.soonest(0, 40, 1), 64);
            Edge.none(CageLeave::new, 1, y -> y.soonest(0, 0, 0));
            x = Kit.park(Edge.FULL);
            Kit.is(x, x.soonest(0, 0, 5), 5);
            Kit.is(x, x.soonest(5, 0, 5), 0);
        });
    }

    private static void soonestBy() {
        Edge.of("Terms 3", "of all the TRAINS that can be the first of such a way the least.", () -> {
            CageLeave x = Kit.park(Kit.NET);
            Kit.is(x, x.soonestBy(0, 5, 1), 0);
            x.halt(0, true);
            Kit.is(x, x.soonestBy(0, 5, 1), 3);
            x.halt(0, false);
            x.shift(0, 6);
            Kit.is(x, x.soonestBy(0, 5, 1), 3);
            x.shift(0, 4);
            Kit.is(x, x.soonestBy(0, 0, 1), 0);
            Kit.is(x, x.soonestBy(0, 5, 1), 3);
            // The least of the first ones, though it leaves ahead of another one.
            x = Kit.park("place z;place s;place r;train a from s to r at 9 takes 1;train b from z to s at 5 takes 1;train c from z to s at 7 takes 2;"
                + "train d from z to s at 6 takes 1;");
            Kit.is(x, x.soonest(0, 0, 2), 10);
            Kit.is(x, x.soonestBy(0, 0, 2), 1);
            Kit.is(x, x.soonestBy(0, 6, 2), 2);
            Kit.is(x, x.soonestBy(0, 0, 1), 1);
            Kit.is(x, x.soonestBy(0, 6, 1), 3);
            Kit.is(x, x.soonestBy(1, 0, 2), 0);
        });
        Edge.of("Promise 38", "The least TRAIN that can be the first of SOONEST (1; 6; 7: the PLACE itself).", () -> {
            for (int p : new int[] {-1, 3, Integer.MIN_VALUE, Integer.MAX_VALUE}) {
                Edge.none(1, y -> y.soonestBy(p, 0, 0));
                Edge.none(1, y -> y.soonestBy(0, 0, p));
                Edge.none(1, y -> y.soonestBy(p, 0, p));
            }
            for (int t : new int[] {-1, 64, Integer.MIN_VALUE, Integer.MAX_VALUE}) {
                Edge.none(1, y -> y.soonestBy(0, t, 1));
                Edge.none(1, y -> y.soonestBy(0, t, 0));
            }
            for (int p = 0; p < 3; p++) {
                int same = p;
                Edge.none(7, y -> y.soonestBy(same, 0, same));
                Edge.none(7, y -> y.soonestBy(same, 63, same));
            }
            Edge.none(() -> Kit.park(Kit.NET), 6, y -> y.soonestBy(3, 0, 0));
            Edge.none(() -> Kit.park(Kit.NET), 6, y -> y.soonestBy(0, 6, 1));
            Edge.none(() -> Kit.park(Edge.ZS + "train a from z to s at 41 takes 24;"), 6, y -> y.soonestBy(0, 0, 1));
            CageLeave x = Kit.park(Edge.ZS + "train a from z to s at 40 takes 24;");
            Kit.is(x, x.soonestBy(0, 40, 1), 0);
            x = Kit.park(Edge.FULL);
            int[] due = {0, 1, 2, 3, 4};
            for (int p = 1; p < 6; p++) { Kit.is(x, x.soonestBy(0, 0, p), due[p - 1]); }
            x = Kit.park("place z;place y;" + Edge.times("train # from z to y at 9 takes 5;", 7) + "train h from z to y at 9 takes 4;");
            Kit.is(x, x.soonestBy(0, 0, 1), 7);
        });
    }

    private static void latest() {
        Edge.of("Terms 3", "LATEST: the latest HOUR at which one may be at a PLACE still, to be at another one by an HOUR.", () -> {
            CageLeave x = Kit.park(Kit.NET);
            Kit.is(x, x.latest(0, 1, 10), 5);
            Kit.none(x, x.latest(0, 1, 9), 6);
            Kit.is(x, x.latest(2, 0, 64), 63);
            Kit.is(x, x.latest(2, 0, 63), 4);
            Kit.is(x, x.latest(2, 0, 5), 4);
            Kit.none(x, x.latest(2, 0, 4), 6);
            // By the second TRAIN of two, as long as it goes behind what comes ahead of it.
            CageLeave y = Kit.park("place z;place s;place r;train a from s to r at 1 takes 1;train b from s to r at 9 takes 1;"
                + "train c from z to s at 3 takes 1;");
            Kit.is(y, y.latest(0, 2, 64), 3);
            Kit.is(y, y.latest(0, 2, 10), 3);
            Kit.none(y, y.latest(0, 2, 9), 6);
            y.shift(1, 3);
            Kit.none(y, y.latest(0, 2, 64), 6);
            y.shift(2, 2);
            Kit.is(y, y.latest(0, 2, 64), 2);
            // By r and back: at s by 10 one is who leaves r at 4.
            Kit.is(x, x.latest(2, 1, 10), 4);
            x.shift(0, 0);
            x.shift(3, 0);
            Kit.is(x, x.latest(0, 1, 5), 0);
            Kit.none(x, x.latest(0, 1, 4), 6);
            x.shift(1, 39);
            Kit.is(x, x.latest(0, 2, 64), 39);
            x.halt(1, true);
            Kit.none(x, x.latest(0, 2, 64), 6);
        });
        Edge.of("Promise 39", "LATEST (by an HOUR from 0 to 64; that HOUR itself, if it is the PLACE itself) (1; 6: none from 0 on).", () -> {
            CageLeave x = Kit.park(Kit.NET);
            for (int p = 0; p < 4; p++) {
                for (int by : new int[] {0, 1, 63, 64}) { Kit.is(x, x.latest(p, p, by), by); }
            }
            for (int p : new int[] {-1, 3, Integer.MIN_VALUE, Integer.MAX_VALUE}) {
                Edge.none(1, y -> y.latest(p, 0, 64));
                Edge.none(1, y -> y.latest(0, p, 64));
                Edge.none(1, y -> y.latest(p, p, 64));
            }
            for (int by : new int[] {-1, 65, Integer.MIN_VALUE, Integer.MAX_VALUE}) {
                Edge.none(1, y -> y.latest(0, 1, by));
                Edge.none(1, y -> y.latest(0, 0, by));
            }
            Edge.none(() -> Kit.park(Kit.NET), 6, y -> y.latest(0, 1, 9));
            Edge.none(() -> Kit.park(Kit.NET), 6, y -> y.latest(0, 1, 0));
            Edge.none(() -> Kit.park(Kit.NET), 6, y -> y.latest(3, 0, 64));
            Edge.none(() -> Kit.park(Edge.ZS + "train a from z to s at 41 takes 24;"), 6, y -> y.latest(0, 1, 64));
            x = Kit.park(Edge.ZS + "train a from z to s at 40 takes 24;");
            Kit.is(x, x.latest(0, 1, 64), 40);
            Kit.none(x, x.latest(0, 1, 63), 6);
            x = Kit.park(Edge.ZS + "train a from z to s at 0 takes 1;");
            Kit.is(x, x.latest(0, 1, 1), 0);
            Kit.none(x, x.latest(0, 1, 0), 6);
            x = Kit.park(Edge.ZS + "train a from z to s at 63 takes 1;");
            Kit.is(x, x.latest(0, 1, 64), 63);
        });
    }

    private static void stay() {
        Edge.of("Terms 3", "STAY at a PLACE: the most HOURS from coming there from PLACE 0 (from HOUR 0 on) till one must leave, to be in PLACE 0 by HOUR 64.", () -> {
            CageLeave x = Kit.park(Edge.ZS + "train a from z to s at 0 takes 1;train b from s to z at 63 takes 1;train c from s to z at 40 takes 24;");
            Kit.is(x, x.stay(1), 62);
            x.halt(1, true);
            Kit.is(x, x.stay(1), 39);
            x.shift(2, 41);
            Kit.none(x, x.stay(1), 6);
            x.shift(2, 1);
            Kit.is(x, x.stay(1), 0);
            x.shift(2, 0);
            Kit.none(x, x.stay(1), 6);
        });
        Edge.of("Promise 40", "STAY (1: PLACE 0, too; 6: not there and back).", () -> {
            for (int p : new int[] {-1, 0, 3, Integer.MIN_VALUE, Integer.MAX_VALUE}) { Edge.none(1, y -> y.stay(p)); }
            Edge.none(() -> Kit.park(Kit.NET), 6, y -> y.stay(3));
            Edge.none(() -> Kit.park(Edge.ZS + "train a from z to s at 0 takes 1;"), 6, y -> y.stay(1));
            Edge.none(() -> Kit.park(Edge.ZS + "train a from s to z at 0 takes 1;"), 6, y -> y.stay(1));
            Edge.none(() -> Kit.park(Edge.ZS + "train a from z to s at 9 takes 2;train b from s to z at 10 takes 2;"), 6, y -> y.stay(1));
            Edge.none(() -> Kit.park(Edge.ZS + "train a from z to s at 41 takes 24;train b from s to z at 63 takes 1;"), 6, y -> y.stay(1));
            Edge.none(CageLeave::new, 1, y -> y.stay(0));
            Edge.none(CageLeave::new, 1, y -> y.stay(1));
            CageLeave x = Kit.park(Edge.ZS + "train a from z to s at 9 takes 2;train b from s to z at 11 takes 2;");
            Kit.is(x, x.stay(1), 0);
            x = Kit.park(Kit.NET);
            Kit.is(x, x.stay(1), 30);
            Kit.is(x, x.stay(2), 59);
        });
    }

    private static void reach() {
        Edge.of("Promise 41", "The set of PLACES that can be reached from PLACE 0, from HOUR 0 on (6: no PLACES).", () -> {
            Edge.none(CageLeave::new, 6, y -> y.reach());
            CageLeave x = Kit.park("place z;");
            Kit.is(x, x.reach(), 1);
            x = Kit.park(Edge.times("place #;", 6));
            Kit.is(x, x.reach(), 1);
            x = Kit.park(Edge.FULL);
            Kit.is(x, x.reach(), 63);
            x.halt(4, true);
            Kit.is(x, x.reach(), 63);
            x.halt(7, true);
            Kit.is(x, x.reach(), 31);
            for (int k = 0; k < 7; k++) { x.halt(k, true); }
            Kit.is(x, x.reach(), 1);
            x = Kit.park(Kit.NET);
            Kit.is(x, x.reach(), 15);
            x.shift(0, 4);
            x.shift(3, 6);
            Kit.is(x, x.reach(), 15);
            x.shift(0, 6);
            Kit.is(x, x.reach(), 7);
            // By a TRAIN that comes AT 64, as soonest() says.
            x = Kit.park(Edge.ZS + "train a from z to s at 40 takes 24;");
            Kit.is(x, x.reach(), 3);
            Kit.is(x, x.soonest(0, 0, 1), 64);
            // From HOUR 0 on, whatever HOUR it is.
            x = Edge.at(Edge.ZS + "train a from z to s at 0 takes 1;", 64);
            Kit.is(x, x.reach(), 3);
        });
    }

    private static void cut() {
        Edge.of("Terms 3", "CUT of a PLACE: the fewest TRAINS that must be HALTED more, so that it can't be reached from PLACE 0 from HOUR 0 on;"
            + " of several sets the least as a number.", () -> {
            CageLeave x = Kit.park("place z;place s;place r;train a from s to r at 9 takes 1;train b from z to s at 5 takes 1;");
            Kit.is(x, x.cut(2), 1);
            Kit.is(x, x.cutSet(2), 1);
            Kit.is(x, x.cutSet(1), 2);
            // Two sets of two each; a set of one is fewer than a lesser number.
            x = Kit.park("place z;place s;place r;train a from z to s at 1 takes 1;train b from z to s at 2 takes 1;train c from s to r at 8 takes 1;"
                + "train d from s to r at 9 takes 1;");
            Kit.is(x, x.cut(2), 2);
            Kit.is(x, x.cutSet(2), 3);
            x = Kit.park("place z;place s;place r;train a from z to s at 1 takes 1;train b from z to s at 2 takes 1;train c from s to r at 8 takes 1;");
            Kit.is(x, x.cut(2), 1);
            Kit.is(x, x.cutSet(2), 4);
            // By a TRAIN that goes AT 0, by one that comes AT 64.
            CageLeave y = Kit.park(Edge.ZS + "train a from z to s at 0 takes 1;");
            Kit.is(y, y.cut(1), 1);
            y = Kit.park(Edge.ZS + "train a from z to s at 40 takes 24;");
            Kit.is(y, y.cut(1), 1);
            Kit.is(y, y.cutSet(1), 1);
            // HALTED more: what is so now is none of them.
            x.halt(0, true);
            Kit.is(x, x.cut(2), 1);
            Kit.is(x, x.cutSet(2), 2);
            Kit.is(x, x.told(9), 1);
        });
        Edge.of("Promise 42", "CUT: how many (1: PLACE 0, too).", () -> {
            for (int p : new int[] {-1, 0, 3, Integer.MIN_VALUE, Integer.MAX_VALUE}) { Edge.none(1, y -> y.cut(p)); }
            Edge.none(CageLeave::new, 1, y -> y.cut(0));
            CageLeave x = Kit.park(Edge.times("place #;", 6));
            for (int p = 1; p < 6; p++) { Kit.is(x, x.cut(p), 0); }
            for (int many = 0; many <= 8; many++) {
                x = Kit.park(Edge.ZS + Edge.times("train # from z to s at 9 takes 5;", many));
                Kit.is(x, x.cut(1), many);
            }
        });
        Edge.of("Promise 43", "CUT: the set of TRAINS (1).", () -> {
            for (int p : new int[] {-1, 0, 3, Integer.MIN_VALUE, Integer.MAX_VALUE}) { Edge.none(1, y -> y.cutSet(p)); }
            Edge.none(CageLeave::new, 1, y -> y.cutSet(0));
            CageLeave x = Kit.park(Edge.ZS + Edge.times("train # from z to s at 9 takes 5;", 8));
            Kit.is(x, x.cutSet(1), 255);
            for (int k = 0; k < 8; k++) {
                x.halt(k, true);
                Kit.is(x, x.cutSet(1), 255 - (2 << k) + 1);
                Kit.is(x, x.cut(1), 7 - k);
            }
        });
    }

    private static void snow() {
        Edge.of("Terms 3", "SNOW: each TRAIN that is not HALTED is stopped by ODDS sixteenths: the odds that a PLACE can be reached so.", () -> {
            CageLeave x = Kit.park("place z;place s;place r;train a from z to s at 1 takes 1;train b from s to r at 2 takes 1;train c from z to s at 0 takes 1;");
            for (int odds = 0; odds <= 16; odds++) {
                x.rule(odds);
                int goes = 16 - odds;
                ratio(x, x.snow(1), 256 - odds * odds, 256);
                ratio(x, x.snow(2), (256 - odds * odds) * goes, 4096);
                ratio(x, x.snow(0), 1, 1);
            }
            x.halt(0, true);
            x.rule(4);
            Kit.fraction(x, x.snow(1), 3, 4);
            Kit.fraction(x, x.snow(2), 9, 16);
            x.halt(1, true);
            Kit.fraction(x, x.snow(2), 0, 1);
            Kit.fraction(x, x.snow(1), 3, 4);
            // By a TRAIN that goes AT 0, by one that comes AT 64.
            x = Kit.park(Edge.ZS + "train a from z to s at 0 takes 1;");
            Kit.fraction(x, x.snow(1), 7, 8);
            x = Kit.park(Edge.ZS + "train a from z to s at 40 takes 24;");
            Kit.fraction(x, x.snow(1), 7, 8);
        });
        Edge.of("Promise 44", "The FRACTION is SNOW of a PLACE (1).", () -> {
            for (int p : new int[] {-1, 3, Integer.MIN_VALUE, Integer.MAX_VALUE}) { Edge.not(1, y -> y.snow(p)); }
            Edge.not(CageLeave::new, 1, y -> y.snow(0));
            CageLeave x = Kit.park("odds 1;" + Edge.ZS + Edge.times("train # from z to s at 9 takes 5;", 8));
            Kit.fraction(x, x.snow(1), (1L << 32) - 1, 1L << 32);
            Kit.fraction(x, x.snow(0), 1, 1);
            x.rule(15);
            long none = 1;
            for (int k = 0; k < 8; k++) { none *= 15; }
            Kit.fraction(x, x.snow(1), (1L << 32) - none, 1L << 32);
            x.rule(0);
            Kit.fraction(x, x.snow(1), 1, 1);
            x.rule(16);
            Kit.fraction(x, x.snow(1), 0, 1);
            x = Kit.park("place z;place s;");
            Kit.fraction(x, x.snow(1), 0, 1);
            x = Kit.park(Edge.FULL);
            Kit.fraction(x, x.snow(5), 0, 1);
        });
    }

    /** A FRACTION of small numbers, told without a common divisor. */
    private static void ratio(CageLeave x, boolean got, long top, long bottom) {
        Kit.yes(x, got);
        long above = x.top();
        long below = x.bottom();
        Kit.due(above * bottom, top * below);
        Kit.due(below > 0, true);
        for (long d = 2; d <= below; d++) {
            if (above % d == 0 && below % d == 0) { Kit.fail(above + " by " + below + " have " + d + " in common"); }
        }
    }

    private static void back() {
        Edge.of("Terms 3", "BACK: each BEAST comes back by TRUST sixteenths: the odds that of a set k or more do.", () -> {
            CageLeave x = Kit.park("place z;beast a trust 0;beast b trust 16;beast c trust 4;beast d trust 8;");
            ratio(x, x.back(1, 1), 0, 1);
            ratio(x, x.back(2, 1), 1, 1);
            ratio(x, x.back(3, 1), 1, 1);
            ratio(x, x.back(3, 2), 0, 1);
            ratio(x, x.back(4, 1), 1, 4);
            ratio(x, x.back(12, 1), 5, 8);
            ratio(x, x.back(12, 2), 1, 8);
            ratio(x, x.back(15, 2), 5, 8);
            ratio(x, x.back(15, 3), 1, 8);
            ratio(x, x.back(15, 4), 0, 1);
            for (int set = 0; set < 16; set++) { ratio(x, x.back(set, 0), 1, 1); }
            // Who is EATEN counts as others do.
            x = Edge.rich();
            Kit.fraction(x, x.back(2, 1), 3, 4);
        });
        Edge.of("Promise 45", "The FRACTION is BACK of k (0 to 8) of a set (1).", () -> {
            for (int set : NO_SET) { Edge.not(1, y -> y.back(set, 0)); }
            for (int k : new int[] {-1, 9, Integer.MIN_VALUE, Integer.MAX_VALUE}) {
                Edge.not(1, y -> y.back(7, k));
                Edge.not(1, y -> y.back(0, k));
            }
            CageLeave x = new CageLeave();
            Kit.fraction(x, x.back(0, 0), 1, 1);
            for (int k = 1; k <= 8; k++) { Kit.fraction(x, x.back(0, k), 0, 1); }
            Edge.not(CageLeave::new, 1, y -> y.back(1, 0));
            x = Kit.park("place z;" + Edge.times("beast # trust 1;", 8));
            Kit.fraction(x, x.back(255, 8), 1, 1L << 32);
            Kit.fraction(x, x.back(255, 0), 1, 1);
            long none = 1;
            for (int k = 0; k < 8; k++) { none *= 15; }
            Kit.fraction(x, x.back(255, 1), (1L << 32) - none, 1L << 32);
            Kit.fraction(x, x.back(127, 8), 0, 1);
            Edge.not(() -> Kit.park(Edge.FULL), 1, y -> y.back(256, 1));
        });
    }

    private static void wildest() {
        Edge.of("Promise 46", "The BEAST of a set with the least TRUST, of several the first (1; 6: the empty set).", () -> {
            CageLeave x = Kit.park("place z;beast a trust 5;beast b trust 4;beast c trust 4;beast d trust 16;beast e trust 0;");
            int[] set = {1, 2, 3, 4, 6, 7, 8, 9, 15, 16, 31, 13};
            int[] due = {0, 1, 1, 2, 1, 1, 3, 0, 1, 4, 4, 2};
            for (int i = 0; i < set.length; i++) { Kit.is(x, x.wildest(set[i]), due[i]); }
            x.trust(4, 16);
            Kit.is(x, x.wildest(24), 3);
            Kit.is(x, x.wildest(16), 4);
            for (int no : NO_SET) { Edge.none(1, y -> y.wildest(no)); }
            Edge.none(6, y -> y.wildest(0));
            Edge.none(CageLeave::new, 6, y -> y.wildest(0));
            Edge.none(CageLeave::new, 1, y -> y.wildest(1));
            x = Kit.park(Edge.FULL);
            Kit.is(x, x.wildest(255), 0);
            Kit.is(x, x.wildest(192), 6);
            x.trust(7, 0);
            Kit.is(x, x.wildest(255), 7);
        });
    }

    private static void rooms() {
        Edge.of("Terms 3", "ROOMS of a size (1 to 72) for a set of BEASTS: the fewest, so that in each SIZES together are no more than that,"
            + " and nobody HUNTS anybody.", () -> {
            CageLeave x = Kit.park("place z;beast a size 3;beast b size 2;beast c size 4;beast d size 5;");
            int[] size = {5, 6, 7, 8, 9, 13, 14, 72};
            int[] due = {3, 3, 2, 2, 2, 2, 1, 1};
            for (int i = 0; i < size.length; i++) { Kit.is(x, x.rooms(15, size[i]), due[i]); }
            // One hunts another: never in one room, whoever hunts whom.
            Kit.yes(x, x.hunt(0, 3, true));
            Kit.is(x, x.rooms(15, 72), 2);
            Kit.is(x, x.rooms(9, 72), 2);
            Kit.is(x, x.rooms(6, 72), 1);
            Kit.yes(x, x.hunt(0, 3, false));
            Kit.yes(x, x.hunt(3, 0, true));
            Kit.is(x, x.rooms(9, 72), 2);
            Kit.is(x, x.rooms(15, 72), 2);
            // Of a ring of five, three are due.
            x = Kit.park("place z;" + Edge.times("beast #;", 5) + "hunts a b;hunts b c;hunts c d;hunts d e;hunts e a;");
            Kit.is(x, x.rooms(31, 72), 3);
            Kit.is(x, x.rooms(31, 2), 3);
            Kit.is(x, x.rooms(31, 1), 5);
            Kit.is(x, x.rooms(15, 72), 2);
        });
        Edge.of("Promise 47", "ROOMS (1; 6: one is greater than a room).", () -> {
            for (int set : NO_SET) { Edge.none(1, y -> y.rooms(set, 9)); }
            for (int size : new int[] {0, -1, 73, Integer.MIN_VALUE, Integer.MAX_VALUE}) {
                Edge.none(1, y -> y.rooms(1, size));
                Edge.none(1, y -> y.rooms(0, size));
            }
            Edge.none(6, y -> y.rooms(1, 4));
            Edge.none(6, y -> y.rooms(7, 4));
            Edge.none(6, y -> y.rooms(2, 1));
            CageLeave x = Edge.rich();
            Kit.is(x, x.rooms(1, 5), 1);
            Kit.is(x, x.rooms(6, 4), 1);
            Kit.is(x, x.rooms(7, 5), 2);
            Kit.is(x, x.rooms(0, 1), 0);
            Kit.is(x, x.rooms(0, 72), 0);
            x = new CageLeave();
            Kit.is(x, x.rooms(0, 1), 0);
            Edge.none(CageLeave::new, 1, y -> y.rooms(1, 1));
            x = Kit.park("place z;" + Edge.times("beast # size 9;", 8));
            Kit.is(x, x.rooms(255, 72), 1);
            Kit.is(x, x.rooms(255, 71), 2);
            Kit.is(x, x.rooms(255, 18), 4);
            Kit.is(x, x.rooms(255, 17), 8);
            Kit.is(x, x.rooms(255, 9), 8);
            Kit.none(x, x.rooms(255, 8), 6);
            Kit.none(x, x.rooms(128, 8), 6);
            // All hunt each other.
            for (int a = 0; a < 8; a++) { for (int b = 0; b < 8; b++) { if (a != b) { x.hunt(a, b, true); } } }
            Kit.is(x, x.rooms(255, 72), 8);
        });
    }

    private static void roomSize() {
        Edge.of("Promise 48", "The least size of rooms by which so many (1 to 8) are enough for a set (1; 6: by none).", () -> {
            for (int set : NO_SET) { Edge.none(1, y -> y.roomSize(set, 8)); }
            for (int many : new int[] {0, -1, 9, Integer.MIN_VALUE, Integer.MAX_VALUE}) {
                Edge.none(1, y -> y.roomSize(1, many));
                Edge.none(1, y -> y.roomSize(0, many));
            }
            Edge.none(6, y -> y.roomSize(3, 1));
            Edge.none(6, y -> y.roomSize(7, 1));
            CageLeave x = Edge.rich();
            // l hunts g, t hunts l: l alone, g and t in the other one.
            Kit.is(x, x.roomSize(7, 2), 5);
            Kit.is(x, x.roomSize(7, 8), 5);
            Kit.is(x, x.roomSize(6, 1), 3);
            Kit.is(x, x.roomSize(6, 2), 2);
            Kit.is(x, x.roomSize(0, 1), 1);
            Kit.is(x, x.roomSize(0, 8), 1);
            Kit.is(x, x.roomSize(4, 1), 1);
            x = new CageLeave();
            Kit.is(x, x.roomSize(0, 1), 1);
            x = Kit.park("place z;" + Edge.times("beast # size 9;", 8));
            int[] size = {72, 36, 27, 18, 18, 18, 18, 9};
            for (int many = 1; many <= 8; many++) { Kit.is(x, x.roomSize(255, many), size[many - 1]); }
            for (int a = 0; a < 8; a++) { for (int b = a + 1; b < 8; b++) { x.hunt(a, b, true); } }
            Kit.is(x, x.roomSize(255, 8), 9);
            Kit.none(x, x.roomSize(255, 7), 6);
            Kit.is(x, x.roomSize(127, 7), 9);
        });
    }
}
