/** Sentences of "Terms" 2 and promises 13 to 28. */
final class EdgesOfHours {

    private EdgesOfHours() { }

    static void go() {
        hours();
        arrivals();
        boarding();
        seats();
        eaten();
        mondays();
        together();
        told();
        train();
        beast();
        where();
        hour();
        monday();
        ticketAndLet();
        haltAndTrust();
        shift();
        hunt();
        mournAndRule();
    }

    /** Lets HOURS go by in turn: in each, who is EATEN. */
    private static void eatenAre(CageLeave x, int... due) {
        for (int set : due) { Kit.is(x, x.hour(1), set); }
    }

    private static void hours() {
        Edge.of("Terms 2", "An HOUR t (0 to 63) goes by, then it is HOUR t and 1:", () -> {
            CageLeave x = Kit.park(Edge.RIDE);
            for (int t = 0; t < 64; t++) {
                Kit.is(x, x.told(5), t);
                Kit.is(x, x.hour(1), 0);
            }
            Kit.is(x, x.told(5), 64);
            Kit.none(x, x.hour(1), 4);
            x = Kit.park("");
            Kit.is(x, x.hour(64), 0);
            Kit.is(x, x.told(5), 64);
        });
        Edge.of("Terms 2", "1. who is on a TRAIN that left at an HOUR to which what it TAKES makes t together, is at the PLACE where it goes TO.", () -> {
            for (int takes : new int[] {1, 2, 24}) {
                for (int at : new int[] {0, 39}) {
                    CageLeave x = Edge.at(Edge.ZS + "train a from z to s at " + at + " takes " + takes + ";beast m out;ticket m a;", at);
                    Kit.is(x, x.at(0), 0);
                    for (int i = 0; i < takes; i++) {
                        x.hour(1);
                        Kit.is(x, x.at(0), 10);
                    }
                    x.hour(1);
                    Kit.is(x, x.at(0), 1);
                    Kit.is(x, x.train(0, 6), 0);
                    Kit.is(x, x.there(1), 1);
                }
            }
        });
    }

    private static void arrivals() {
        Edge.of("Terms 2", "2. TRAIN by TRAIN, by numbers, that goes AT t and is not HALTED:", () -> {
            // Both go AT 3: the first one has the BEAST, unless it is HALTED, or goes later.
            String two = "place z;place s;place r;train a from z to s at 3 takes 9;train b from z to r at 3 takes 9;beast m out;ticket m a b;";
            CageLeave x = Edge.at(two, 3);
            Kit.is(x, x.at(0), 0);
            x.hour(1);
            Kit.is(x, x.at(0), 10);
            x = Edge.at(two, 3);
            x.halt(0, true);
            x.hour(1);
            Kit.is(x, x.at(0), 11);
            x = Edge.at(two, 3);
            x.halt(0, true);
            x.halt(1, true);
            x.hour(61);
            Kit.is(x, x.at(0), 0);
            x = Edge.at(two, 3);
            x.halt(0, true);
            x.halt(0, false);
            x.hour(1);
            Kit.is(x, x.at(0), 10);
            x = Kit.park(two);
            x.shift(0, 4);
            x.hour(4);
            Kit.is(x, x.at(0), 11);
            // Who comes at 12 gets on what goes AT 12, not on what went AT 11.
            String on = "place z;place s;place r;train a from z to s at 3 takes 9;train b from s to r at 12 takes 1;train c from s to r at 11 takes 1;"
                + "beast m out;ticket m a b c;";
            x = Edge.at(on, 12);
            Kit.is(x, x.at(0), 10);
            x.hour(1);
            Kit.is(x, x.at(0), 11);
            x.hour(1);
            Kit.is(x, x.at(0), 2);
            // AT 0 and AT 63 are HOURS as others.
            x = Edge.at(Edge.ZS + "train a from z to s at 0 takes 1;beast m out;ticket m a;", 1);
            Kit.is(x, x.at(0), 10);
            x = Edge.at(Edge.ZS + "train a from z to s at 63 takes 1;beast m out;ticket m a;", 64);
            Kit.is(x, x.at(0), 10);
        });
    }

    private static void boarding() {
        String line = Edge.ZS + "train a from z to s at 1 takes 1;train b from s to z at 5 takes 1;beast m out;beast n;ticket m a b;ticket n a b;";
        Edge.of("Terms 2", "by numbers, who is at the PLACE it comes FROM, has a TICKET for it (in PLACE 0: is let OUT, too), is not EATEN, gets on,", () -> {
            CageLeave x = Edge.at(line, 2);
            Kit.is(x, x.train(0, 6), 1);
            Kit.is(x, x.there(0), 2);
            x.hour(2);
            // Elsewhere than in PLACE 0 nobody must be let OUT.
            Kit.yes(x, x.let(0, false));
            x.hour(2);
            Kit.is(x, x.at(0), 11);
            x = Edge.at(line, 4);
            Kit.yes(x, x.ticket(0, 1, false));
            x.hour(60);
            Kit.is(x, x.at(0), 1);
            x = Kit.park(line);
            Kit.yes(x, x.ticket(0, 0, false));
            Kit.yes(x, x.let(1, true));
            x.hour(2);
            Kit.is(x, x.train(0, 6), 2);
            // Not at the PLACE it comes FROM.
            x = Kit.park(line);
            x.shift(1, 1);
            x.hour(2);
            Kit.is(x, x.train(1, 6), 0);
            // Who is EATEN is not there any more.
            x = Kit.park(line + "hunts m n;");
            x.let(1, true);
            Kit.is(x, x.hour(2), 2);
            x.hour(4);
            Kit.is(x, x.train(1, 6), 1);
            // Let OUT in the very HOUR.
            x = Edge.at(line, 1);
            Kit.yes(x, x.let(0, false));
            Kit.yes(x, x.let(1, true));
            x.hour(1);
            Kit.is(x, x.train(0, 6), 2);
        });
    }

    private static void seats() {
        Edge.of("Terms 2", "as long as there are SEATS.", () -> {
            for (int seats = 1; seats <= 9; seats++) {
                StringBuilder s = new StringBuilder(Edge.ZS + "train a from z to s at 0 takes 5 seats " + seats + ";train b from z to s at 1 takes 5;");
                for (int i = 0; i < 8; i++) { s.append("beast ").append((char) ('c' + i)).append(" out;ticket ").append((char) ('c' + i)).append(" a b;"); }
                CageLeave x = Edge.at(s.toString(), 1);
                int on = (1 << Math.min(8, seats)) - 1;
                Kit.is(x, x.train(0, 6), on);
                Kit.is(x, x.there(0), 255 - on);
                x.hour(1);
                Kit.is(x, x.train(1, 6), 255 - on);
            }
            // Who has no TICKET takes no SEAT; nor has a TRAIN fewer of them in the next WEEK.
            CageLeave x = Kit.park(Edge.ZS + "train a from z to s at 0 takes 5 seats 1;beast m out;beast n out;ticket n a;");
            for (int week = 0; week < 3; week++) {
                x.hour(1);
                Kit.is(x, x.train(0, 6), 2);
                x.hour(63);
                x.monday();
            }
        });
        Edge.of("Terms 2", "(Who got on one does not get on another one.", () -> {
            CageLeave x = Edge.at("place z;place s;place r;train a from z to s at 2 takes 1;train b from z to r at 2 takes 1;train c from s to r at 2 takes 1;"
                + "train d from s to r at 3 takes 2;train e from s to z at 3 takes 2;beast m out;ticket m a b c d e;", 3);
            Kit.is(x, x.train(0, 6), 1);
            Kit.is(x, x.told(8), 1);
            Kit.is(x, x.train(1, 6), 0);
            Kit.is(x, x.train(2, 6), 0);
            x.hour(1);
            Kit.is(x, x.train(3, 6), 1);
            Kit.is(x, x.train(4, 6), 0);
        });
        Edge.of("Terms 2", "A TRAIN carries those who got on at its HOUR; whether it is HALTED later does not matter.)", () -> {
            CageLeave x = Edge.at(Edge.RIDE, 1);
            Kit.yes(x, x.halt(0, true));
            for (int b = 0; b < 4; b++) {
                x.ticket(b, 0, false);
                x.let(b, false);
            }
            x.hour(4);
            Kit.is(x, x.train(0, 6), 15);
            x.hour(1);
            Kit.is(x, x.there(1), 15);
        });
    }

    private static void eaten() {
        Edge.of("Terms 2", "3. BEAST by BEAST, by numbers, who is not EATEN, is on a TRAIN, or at a PLACE that is not PLACE 0,"
            + " with a BEAST that HUNTS it and is not EATEN:", () -> {
            // On the TRAIN, in its first HOUR.
            CageLeave x = Kit.park(Edge.RIDE + "hunts p m;");
            Kit.is(x, x.hour(1), 1);
            // By numbers: m is EATEN by n ahead of n being EATEN; o lives, since m is EATEN then.
            x = Kit.park(Edge.RIDE + "hunts n m;hunts m o;hunts o n;");
            Kit.is(x, x.hour(1), 3);
            x = Kit.park(Edge.RIDE + "hunts m n;hunts n o;hunts o p;");
            Kit.is(x, x.hour(1), 10);
            x = Kit.park(Edge.RIDE + "hunts p o;hunts o n;hunts n m;");
            Kit.is(x, x.hour(1), 7);
            x = Kit.park(Edge.RIDE + "hunts m n;hunts n m;");
            Kit.is(x, x.hour(1), 1);
            // In PLACE 0 nobody is EATEN, in the next one all are, in the HOUR in which they come.
            x = Kit.park(Edge.RIDE + "hunts p m;");
            x.let(3, false);
            Kit.is(x, x.hour(64), 0);
            x = Kit.park(Edge.ZS + "train a from z to s at 0 takes 5;train b from z to s at 1 takes 6;beast m out;beast n out;ticket m a;ticket n b;hunts n m;");
            eatenAre(x, 0, 0, 0, 0, 0, 0, 0, 1, 0);
            // On the sixth PLACE, on the eighth TRAIN.
            StringBuilder s = new StringBuilder("place z;place y;place x;place w;place v;place u;");
            for (int i = 0; i < 7; i++) { s.append("train ").append((char) ('a' + i)).append(" from z to y at 9 takes 1;"); }
            x = Kit.park(s + "train h from z to u at 0 takes 2;beast m out;beast n out;ticket m h;ticket n h;");
            Kit.is(x, x.hour(1), 0);
            Kit.yes(x, x.hunt(1, 0, true));
            Kit.is(x, x.hour(1), 1);
            x = Kit.park(s + "train h from z to u at 0 takes 2;beast m out;beast n out;ticket m h;ticket n h;");
            Kit.is(x, x.hour(3), 0);
            Kit.yes(x, x.hunt(1, 0, true));
            Kit.is(x, x.hour(1), 1);
            // Going by each other on two TRAINS, or on a TRAIN that leaves where the other one comes, nobody is.
            x = Kit.park(Edge.ZS + "train a from z to s at 0 takes 5;train b from z to s at 0 takes 6;train c from s to z at 6 takes 9;"
                + "beast m out;beast n out;ticket m a c;ticket n b;hunts n m;hunts m n;");
            Kit.is(x, x.hour(64), 0);
        });
        Edge.of("Terms 2", "is EATEN (by the first such one).", () -> {
            CageLeave x = Kit.park(Edge.RIDE + "hunts p m;hunts o m;");
            Kit.is(x, x.eater(0), 2);
            x = Kit.park(Edge.RIDE + "hunts p m;hunts n m;hunts o m;");
            Kit.is(x, x.eater(0), 1);
            // The first one is EATEN already.
            x = Kit.park(Edge.RIDE + "hunts p m;hunts m n;hunts p n;");
            Kit.is(x, x.eater(1), 3);
            Kit.is(x, x.hour(1), 3);
            Kit.is(x, x.told(7), 3);
            Kit.is(x, x.beast(0, 3), 1);
            Kit.is(x, x.beast(2, 3), 0);
        });
    }

    private static void mondays() {
        Edge.of("Terms 2", "At HOUR 64 no HOUR goes by, but a MONDAY:", () -> {
            CageLeave x = Edge.at(Edge.RIDE, 64);
            Kit.none(x, x.hour(1), 4);
            Kit.is(x, x.monday(), 15);
            Kit.is(x, x.hour(1), 0);
            Edge.none(() -> Edge.at(Edge.RIDE, 64), 4, y -> y.hour(1));
            Edge.none(() -> Edge.at(Edge.RIDE, 63), 7, y -> y.monday());
        });
        String back = Edge.ZS + "train a from z to s at 0 takes 2;";
        Edge.of("Terms 2", "who is not EATEN, and not in PLACE 0 (what arrives AT 64: is there just then), is LATE once more;", () -> {
            // AT 63, AT 64, AT 65.
            int[] takes = {3, 4, 5, 24};
            for (int i = 0; i < 4; i++) {
                CageLeave x = Edge.at(back + "train b from s to z at 60 takes " + takes[i] + ";beast m out;ticket m a b;", 64);
                Kit.is(x, x.at(0), i == 0 ? 0 : 11);
                Kit.is(x, x.monday(), i < 2 ? 0 : 1);
                Kit.is(x, x.beast(0, 4), i < 2 ? 0 : 1);
            }
            // What arrives AT 64 elsewhere than in PLACE 0 is LATE.
            CageLeave x = Edge.at(Edge.ZS + "train a from z to s at 63 takes 1;beast m out;beast n;ticket m a;ticket n a;", 64);
            Kit.is(x, x.monday(), 1);
            // Who is EATEN is not LATE, but stays so.
            x = Edge.at(Edge.RIDE + "hunts m n;", 64);
            Kit.is(x, x.monday(), 13);
            Kit.is(x, x.beast(1, 4), 0);
            Kit.is(x, x.beast(1, 3), 1);
            for (int week = 2; week <= 4; week++) {
                x.hour(64);
                Kit.is(x, x.monday(), 13);
                Kit.is(x, x.beast(0, 4), week);
            }
        });
        Edge.of("Terms 2", "all of these are in PLACE 0; the WEEK is 1 more (to 999), HOUR 0.", () -> {
            CageLeave x = Edge.at(back + "train b from s to z at 63 takes 24;beast m out;beast n out;ticket m a;ticket n a b;", 64);
            Kit.is(x, x.at(0), 1);
            Kit.is(x, x.at(1), 11);
            Kit.is(x, x.monday(), 3);
            Kit.is(x, x.there(0), 3);
            Kit.is(x, x.there(1), 0);
            Kit.is(x, x.told(8), 0);
            Kit.is(x, x.train(1, 6), 0);
            Kit.is(x, x.told(4), 1);
            Kit.is(x, x.told(5), 0);
            // What was on its way on MONDAY does not come on Tuesday.
            Kit.yes(x, x.let(0, false));
            Kit.yes(x, x.let(1, false));
            x.hour(64);
            Kit.is(x, x.there(0), 3);
            x = lastWeek(998);
            Kit.is(x, x.told(4), 998);
            x.hour(64);
            Kit.is(x, x.monday(), 0);
            Kit.is(x, x.told(4), 999);
            x.hour(64);
            Kit.none(x, x.monday(), 4);
            Kit.is(x, x.told(4), 999);
            Kit.is(x, x.told(5), 64);
        });
        Edge.of("Terms 2", "TICKETS, OUT, HALTED stay.", () -> {
            CageLeave x = Kit.park(Edge.RIDE);
            x.halt(0, true);
            x.let(1, false);
            x.ticket(2, 0, false);
            x.hour(64);
            x.monday();
            Kit.is(x, x.told(9), 1);
            Kit.is(x, x.told(6), 13);
            Kit.is(x, x.beast(2, 5), 0);
            Kit.is(x, x.beast(3, 5), 1);
            x.halt(0, false);
            x.hour(1);
            Kit.is(x, x.train(0, 6), 9);
        });
    }

    /** A park of one BEAST in one of the last WEEKS. */
    private static CageLeave lastWeek(int week) {
        CageLeave x = Kit.weeks("place p;beast b;", "loop 99;hour 64;monday;end;");
        for (int i = 0; i < 10; i++) { x.live(0); }
        for (int i = 990; i < week; i++) {
            x.hour(64);
            x.monday();
        }
        return x;
    }

    private static void together() {
        Edge.of("Terms 2", "TOGETHER are two BEASTS, not EATEN, on one TRAIN, or at one PLACE but PLACE 0.", () -> {
            CageLeave x = Kit.park(Edge.RIDE);
            Kit.is(x, x.together(0, 3), 0);
            x.hour(1);
            Kit.is(x, x.together(0, 3), 1);
            Kit.is(x, x.together(3, 0), 1);
            x.hour(5);
            Kit.is(x, x.together(0, 3), 1);
            x = Edge.at(Edge.RIDE + "hunts m n;", 1);
            Kit.is(x, x.together(0, 1), 0);
            Kit.is(x, x.together(1, 0), 0);
            Kit.is(x, x.together(0, 2), 1);
            x = Edge.at(Edge.RIDE + "hunts m n;hunts o p;", 9);
            Kit.is(x, x.together(1, 3), 0);
            Kit.is(x, x.together(0, 2), 1);
            // Where there are as many PLACES, TRAINS, BEASTS as may be.
            x = Kit.park(Edge.FULL);
            x.hour(9);
            x.hunt(0, 5, true);
            Kit.is(x, x.hour(1), 32);
            Kit.is(x, x.together(0, 5), 0);
            Kit.is(x, x.together(5, 7), 0);
            Kit.is(x, x.together(1, 6), 1);
            // Two TRAINS of one way; one in PLACE 1, one on TRAIN 1; one in PLACE 0, one on TRAIN 0.
            x = Edge.at(Edge.ZS + "train a from z to s at 0 takes 1;train b from z to s at 0 takes 9;beast m out;beast n out;beast o;ticket m a;ticket n b;", 1);
            Kit.is(x, x.together(0, 1), 0);
            Kit.is(x, x.together(0, 2), 0);
            x.hour(1);
            Kit.is(x, x.at(0), 1);
            Kit.is(x, x.at(1), 11);
            Kit.is(x, x.together(0, 1), 0);
        });
    }

    private static void told() {
        Edge.of("Promise 13", "How many PLACES (what 0), TRAINS (1), BEASTS (2); ODDS (3); the WEEK (4), the HOUR (5);", () -> {
            CageLeave x = Kit.park(Edge.FULL);
            int[] due = {6, 8, 8, 16, 0, 0};
            for (int what = 0; what < 6; what++) { Kit.is(x, x.told(what), due[what]); }
            x = Edge.rich();
            int[] rich = {3, 5, 3, 4, 1, 5};
            for (int what = 0; what < 6; what++) { Kit.is(x, x.told(what), rich[what]); }
        });
        Edge.of("Promise 13", "sets of BEASTS (1 for BEAST 0 ..) that are let OUT (6), EATEN (7), on a TRAIN (8); of TRAINS that are HALTED (9);", () -> {
            CageLeave x = Kit.park(Edge.FULL);
            Kit.is(x, x.told(6), 255);
            Kit.is(x, x.told(8), 0);
            x.let(0, false);
            x.let(6, false);
            Kit.is(x, x.told(6), 190);
            x.halt(0, true);
            x.halt(7, true);
            Kit.is(x, x.told(9), 129);
            for (int k = 1; k < 7; k++) { x.halt(k, true); }
            Kit.is(x, x.told(9), 255);
            x.hour(1);
            Kit.is(x, x.told(8), 0);
            x = Edge.at(Edge.FULL, 1);
            Kit.is(x, x.told(8), 255);
            x.hour(1);
            Kit.is(x, x.told(8), 254);
            x.hour(7);
            Kit.is(x, x.told(8), 128);
            Kit.is(x, x.told(7), 0);
            // All but the last are EATEN.
            StringBuilder s = new StringBuilder(Edge.ZS + "train a from z to s at 0 takes 5;");
            for (int i = 0; i < 8; i++) { s.append("beast ").append((char) ('b' + i)).append(" out;ticket ").append((char) ('b' + i)).append(" a;"); }
            for (int i = 0; i < 7; i++) { s.append("hunts i ").append((char) ('b' + i)).append(";"); }
            x = Edge.at(s.toString(), 1);
            Kit.is(x, x.told(7), 127);
            Kit.is(x, x.told(8), 128);
        });
        Edge.of("Promise 13", "how often BEASTS were LATE, together (10) (1).", () -> {
            CageLeave x = Kit.park(Edge.RIDE);
            for (int week = 0; week <= 3; week++) {
                Kit.is(x, x.told(10), 4 * week);
                x.hour(64);
                x.monday();
            }
            // Who was LATE and is EATEN counts still.
            x.hunt(0, 1, true);
            x.hour(64);
            Kit.is(x, x.told(10), 16);
            x.monday();
            Kit.is(x, x.told(10), 19);
            for (int what : new int[] {-1, 11, Integer.MIN_VALUE, Integer.MAX_VALUE}) { Edge.none(1, y -> y.told(what)); }
            x = new CageLeave();
            for (int what = 0; what <= 10; what++) { Kit.is(x, x.told(what), what == 3 ? 2 : 0); }
        });
    }

    private static void train() {
        Edge.of("Promise 14", "Of a TRAIN, what 0: FROM, 1: TO, 2: AT, 3: what it TAKES, 4: SEATS, 5: 1 if it is HALTED, else 0,"
            + " 6: the set of BEASTS that are on it (1).", () -> {
            String most = "place z;place y;place x;place w;place v;place u;";
            for (int i = 0; i < 7; i++) { most += "train " + (char) ('a' + i) + " from z to y at 9 takes 1;"; }
            CageLeave x = Kit.park(most + "train h from u to z at 63 takes 24 seats 1;");
            int[] last = {5, 0, 63, 24, 1, 0, 0};
            int[] first = {0, 1, 9, 1, 9, 0, 0};
            for (int what = 0; what < 7; what++) {
                Kit.is(x, x.train(7, what), last[what]);
                Kit.is(x, x.train(0, what), first[what]);
            }
            x.halt(7, true);
            Kit.is(x, x.train(7, 5), 1);
            Kit.is(x, x.train(0, 5), 0);
            x.halt(7, false);
            Kit.is(x, x.train(7, 5), 0);
            x = Edge.at(Edge.FULL, 1);
            for (int k = 0; k < 8; k++) { Kit.is(x, x.train(k, 6), 1 << k); }
            for (int k : new int[] {-1, 5, Integer.MIN_VALUE, Integer.MAX_VALUE}) { Edge.none(1, y -> y.train(k, 0)); }
            for (int what : new int[] {-1, 7, Integer.MIN_VALUE, Integer.MAX_VALUE}) { Edge.none(1, y -> y.train(4, what)); }
            Edge.none(CageLeave::new, 1, y -> y.train(0, 0));
            Edge.none(() -> Kit.park(Edge.FULL), 1, y -> y.train(8, 0));
        });
    }

    private static void beast() {
        Edge.of("Promise 15", "Of a BEAST, what 0: SIZE, 1: TRUST, 2: 1 if it is let OUT, else 0, 3: 1 if it is EATEN, else 0, 4: how often it was LATE,"
            + " 5: the set of TRAINS for which it has TICKETS, 6: the set of BEASTS that it HUNTS (1).", () -> {
            CageLeave x = Edge.rich();
            int[][] due = {{5, 8, 1, 0, 1, 9, 2}, {2, 12, 1, 1, 0, 6, 0}, {1, 15, 1, 0, 0, 18, 1}};
            for (int b = 0; b < 3; b++) { for (int what = 0; what < 7; what++) { Kit.is(x, x.beast(b, what), due[b][what]); } }
            x = Kit.park(Edge.FULL);
            for (int b = 0; b < 8; b++) { Kit.is(x, x.beast(b, 5), 1 << b); }
            for (int b = 0; b < 7; b++) { Kit.yes(x, x.hunt(7, b, true)); }
            Kit.is(x, x.beast(7, 6), 127);
            Kit.yes(x, x.hunt(0, 7, true));
            Kit.is(x, x.beast(0, 6), 128);
            for (int b : new int[] {-1, 3, Integer.MIN_VALUE, Integer.MAX_VALUE}) { Edge.none(1, y -> y.beast(b, 0)); }
            for (int what : new int[] {-1, 7, Integer.MIN_VALUE, Integer.MAX_VALUE}) { Edge.none(1, y -> y.beast(2, what)); }
            Edge.none(CageLeave::new, 1, y -> y.beast(0, 0));
            Edge.none(() -> Kit.park(Edge.FULL), 1, y -> y.beast(8, 0));
        });
    }

    private static void where() {
        Edge.of("Promise 16", "Where a BEAST is: the PLACE, or 10 and the TRAIN together (1; 6: EATEN).", () -> {
            CageLeave x = Kit.park(Edge.FULL);
            for (int b = 0; b < 8; b++) { Kit.is(x, x.at(b), 0); }
            x.hour(1);
            for (int b = 0; b < 8; b++) { Kit.is(x, x.at(b), 10 + b); }
            x.hour(23);
            int[] place = {1, 2, 3, 4, 5, 1, 2, 5};
            for (int b = 0; b < 8; b++) { Kit.is(x, x.at(b), b == 7 ? 17 : place[b]); }
            x.hour(1);
            for (int b = 0; b < 8; b++) { Kit.is(x, x.at(b), place[b]); }
            for (int b : new int[] {-1, 3, Integer.MIN_VALUE, Integer.MAX_VALUE}) { Edge.none(1, y -> y.at(b)); }
            Edge.none(6, y -> y.at(1));
            Edge.none(CageLeave::new, 1, y -> y.at(0));
        });
        Edge.of("Promise 17", "The set of BEASTS at a PLACE, not EATEN (1).", () -> {
            CageLeave x = Kit.park(Edge.FULL);
            Kit.is(x, x.there(0), 255);
            Kit.is(x, x.there(5), 0);
            x.hour(26);
            int[] due = {0, 33, 66, 4, 8, 144};
            for (int p = 0; p < 6; p++) { Kit.is(x, x.there(p), due[p]); }
            x.hunt(0, 5, true);
            x.hour(1);
            Kit.is(x, x.there(1), 1);
            for (int p : new int[] {-1, 3, Integer.MIN_VALUE, Integer.MAX_VALUE}) { Edge.none(1, y -> y.there(p)); }
            Edge.none(CageLeave::new, 1, y -> y.there(0));
            Edge.none(() -> Kit.park(Edge.FULL), 1, y -> y.there(6));
        });
        Edge.of("Promise 18", "1 if two BEASTS are TOGETHER, else 0 (1: one and itself, too).", () -> {
            CageLeave x = Edge.at(Edge.RIDE, 1);
            for (int a = 0; a < 4; a++) {
                for (int b = 0; b < 4; b++) {
                    if (a == b) { Kit.none(x, x.together(a, b), 1); } else { Kit.is(x, x.together(a, b), 1); }
                }
            }
            for (int b : new int[] {-1, 3, Integer.MIN_VALUE, Integer.MAX_VALUE}) {
                Edge.none(1, y -> y.together(b, 0));
                Edge.none(1, y -> y.together(0, b));
                Edge.none(1, y -> y.together(b, b));
            }
            for (int b = 0; b < 3; b++) {
                int same = b;
                Edge.none(1, y -> y.together(same, same));
            }
            x = Edge.rich();
            Kit.is(x, x.together(0, 1), 0);
            Kit.is(x, x.together(2, 0), 0);
        });
    }

    private static void hour() {
        Edge.of("Promise 19", "So many HOURS (1 to 64): the set of BEASTS EATEN in them", () -> {
            CageLeave x = Kit.park(Kit.ZOO);
            Kit.is(x, x.hour(64), 2);
            x = Kit.park(Kit.ZOO);
            Kit.is(x, x.hour(12), 0);
            Kit.is(x, x.hour(1), 2);
            Kit.is(x, x.hour(51), 0);
            // Who is EATEN one HOUR after the other; who was EATEN ahead of it is none of them.
            String s = Edge.RIDE + "train b from z to s at 1 takes 5;train c from z to s at 2 takes 5;ticket o b;ticket p c;hunts m o;hunts n p;";
            x = Kit.park(s);
            Kit.is(x, x.hour(6), 0);
            Kit.is(x, x.hour(1), 4);
            Kit.is(x, x.hour(1), 8);
            x = Kit.park(s);
            Kit.is(x, x.hour(8), 12);
            Kit.is(x, x.told(5), 8);
            for (int many : new int[] {0, -1, 65, Integer.MIN_VALUE, Integer.MAX_VALUE}) {
                Edge.none(1, y -> y.hour(many));
                Edge.none(() -> Edge.at(Edge.RIDE, 64), 1, y -> y.hour(many));
                Edge.none(CageLeave::new, 1, y -> y.hour(many));
            }
        });
        Edge.of("Promise 19", "(1; 4: above HOUR 64).", () -> {
            for (int now : new int[] {1, 2, 32, 62, 63, 64}) {
                Edge.none(() -> Edge.at(Edge.RIDE, now), 4, y -> y.hour(65 - now));
                Edge.none(() -> Edge.at(Edge.RIDE, now), 4, y -> y.hour(64));
                CageLeave x = Edge.at(Edge.RIDE, now);
                if (now < 64) { Kit.is(x, x.hour(64 - now), 0); }
                Kit.is(x, x.told(5), 64);
            }
        });
    }

    private static void monday() {
        Edge.of("Promise 20", "MONDAY: the set of those that are LATE", () -> {
            CageLeave x = Edge.at(Edge.RIDE, 64);
            Kit.is(x, x.monday(), 15);
            x.let(0, false);
            x.let(3, false);
            x.hour(64);
            Kit.is(x, x.monday(), 6);
            x.halt(0, true);
            x.hour(64);
            Kit.is(x, x.monday(), 0);
            x = Edge.at(Edge.FULL, 64);
            Kit.is(x, x.monday(), 255);
            x = Edge.at("", 64);
            Kit.is(x, x.monday(), 0);
        });
        Edge.of("Promise 20", "(7: ahead of HOUR 64; 4: WEEK 999).", () -> {
            for (int now : new int[] {0, 1, 63}) { Edge.none(() -> Edge.at(Edge.RIDE, now), 7, y -> y.monday()); }
            Edge.none(() -> Edge.at("", 63), 7, y -> y.monday());
            Edge.none(EdgesOfHours::lastMonday, 4, y -> y.monday());
            CageLeave x = lastWeek(998);
            Kit.none(x, x.monday(), 7);
            x.hour(64);
            Kit.is(x, x.monday(), 0);
            // Of two the first of "Terms" 5.
            Kit.none(x, x.monday(), 4);
            x.hour(63);
            Kit.none(x, x.monday(), 4);
        });
    }

    private static CageLeave lastMonday() {
        CageLeave x = lastWeek(999);
        x.hour(64);
        return x;
    }

    private static void ticketAndLet() {
        Edge.of("Promise 21", "A BEAST has a TICKET for a TRAIN, or none (1; 7: it is so, EATEN).", () -> {
            CageLeave x = Kit.park(Edge.FULL);
            Kit.yes(x, x.ticket(7, 0, true));
            Kit.yes(x, x.ticket(0, 7, true));
            Kit.yes(x, x.ticket(7, 7, false));
            Kit.is(x, x.beast(7, 5), 1);
            Kit.is(x, x.beast(0, 5), 129);
            x.hour(1);
            Kit.is(x, x.train(0, 6), 129);
            for (int b : new int[] {-1, 3, Integer.MIN_VALUE, Integer.MAX_VALUE}) {
                Edge.not(1, y -> y.ticket(b, 0, true));
                Edge.not(1, y -> y.ticket(b, 0, false));
            }
            for (int k : new int[] {-1, 5, Integer.MIN_VALUE, Integer.MAX_VALUE}) {
                Edge.not(1, y -> y.ticket(0, k, true));
                Edge.not(1, y -> y.ticket(1, k, true));
                Edge.not(1, y -> y.ticket(0, k, false));
            }
            Edge.not(7, y -> y.ticket(0, 0, true));
            Edge.not(7, y -> y.ticket(0, 1, false));
            for (int k = 0; k < 5; k++) {
                int train = k;
                Edge.not(7, y -> y.ticket(1, train, true));
                Edge.not(7, y -> y.ticket(1, train, false));
            }
            Edge.not(CageLeave::new, 1, y -> y.ticket(0, 0, true));
        });
        Edge.of("Promise 22", "A BEAST is let OUT, or not (1; 7: it is so, EATEN).", () -> {
            CageLeave x = Kit.park(Edge.FULL);
            Kit.yes(x, x.let(7, false));
            Kit.yes(x, x.let(0, false));
            Kit.is(x, x.told(6), 126);
            Kit.yes(x, x.let(7, true));
            Kit.is(x, x.told(6), 254);
            for (int b : new int[] {-1, 3, Integer.MIN_VALUE, Integer.MAX_VALUE}) {
                Edge.not(1, y -> y.let(b, true));
                Edge.not(1, y -> y.let(b, false));
            }
            Edge.not(7, y -> y.let(0, true));
            Edge.not(() -> Kit.park(Kit.ZOO), 7, y -> y.let(2, false));
            Edge.not(7, y -> y.let(1, true));
            Edge.not(7, y -> y.let(1, false));
            Edge.not(CageLeave::new, 1, y -> y.let(0, true));
        });
    }

    private static void haltAndTrust() {
        Edge.of("Promise 23", "A TRAIN is HALTED, or goes (1; 7: it is so).", () -> {
            CageLeave x = Kit.park(Edge.FULL);
            for (int k = 0; k < 8; k++) { Kit.yes(x, x.halt(k, true)); }
            Kit.is(x, x.told(9), 255);
            for (int k = 0; k < 8; k += 7) { Kit.yes(x, x.halt(k, false)); }
            Kit.is(x, x.told(9), 126);
            x.hour(1);
            Kit.is(x, x.told(8), 129);
            for (int k : new int[] {-1, 5, Integer.MIN_VALUE, Integer.MAX_VALUE}) {
                Edge.not(1, y -> y.halt(k, true));
                Edge.not(1, y -> y.halt(k, false));
            }
            Edge.not(7, y -> y.halt(4, true));
            Edge.not(7, y -> y.halt(0, false));
            Edge.not(() -> Kit.park(Edge.FULL), 1, y -> y.halt(8, true));
            // Somebody on it does not matter.
            x = Edge.rich();
            Kit.yes(x, x.halt(0, true));
            Kit.is(x, x.train(0, 6), 1);
        });
        Edge.of("Promise 24", "TRUST of a BEAST from now on (0 to 16) (1).", () -> {
            CageLeave x = Kit.park(Edge.FULL);
            for (int much = 0; much <= 16; much++) {
                Kit.yes(x, x.trust(7, much));
                Kit.is(x, x.beast(7, 1), much);
                Kit.is(x, x.beast(0, 1), 8);
            }
            Kit.yes(x, x.trust(7, 16));
            Kit.yes(x, x.trust(0, 0));
            Kit.is(x, x.beast(0, 1), 0);
            Kit.fraction(x, x.back(129, 1), 1, 1);
            for (int much : new int[] {-1, 17, Integer.MIN_VALUE, Integer.MAX_VALUE}) { Edge.not(1, y -> y.trust(0, much)); }
            for (int b : new int[] {-1, 3, Integer.MIN_VALUE, Integer.MAX_VALUE}) { Edge.not(1, y -> y.trust(b, 1)); }
        });
    }

    private static void shift() {
        Edge.of("Promise 25", "A TRAIN goes AT another HOUR (0 to 63) from now on", () -> {
            CageLeave x = Kit.park(Edge.FULL);
            for (int at : new int[] {0, 1, 62, 63}) {
                Kit.yes(x, x.shift(7, at));
                Kit.is(x, x.train(7, 2), at);
                Kit.is(x, x.train(6, 2), 0);
            }
            x.hour(64);
            Kit.is(x, x.at(7), 17);
            for (int at : new int[] {-1, 64, Integer.MIN_VALUE, Integer.MAX_VALUE}) {
                Edge.not(1, y -> y.shift(4, at));
                Edge.not(1, y -> y.shift(0, at));
            }
            for (int k : new int[] {-1, 5, Integer.MIN_VALUE, Integer.MAX_VALUE}) { Edge.not(1, y -> y.shift(k, 1)); }
            // In the HOUR that is next it goes, in one that is gone it does not.
            String one = Edge.ZS + "train a from z to s at 40 takes 1;beast m out;ticket m a;";
            x = Edge.at(one, 9);
            Kit.yes(x, x.shift(0, 8));
            x.hour(55);
            Kit.is(x, x.at(0), 0);
            x = Edge.at(one, 9);
            Kit.yes(x, x.shift(0, 9));
            x.hour(1);
            Kit.is(x, x.at(0), 10);
            // In the next WEEK, too.
            x = Edge.at(one, 9);
            Kit.yes(x, x.shift(0, 8));
            x.hour(55);
            x.monday();
            x.hour(9);
            Kit.is(x, x.at(0), 10);
        });
        Edge.of("Promise 25", "(1; 7: somebody is on it).", () -> {
            Edge.not(7, y -> y.shift(0, 2));
            Edge.not(7, y -> y.shift(0, 63));
            Edge.not(7, y -> y.shift(1, 0));
            for (int now = 1; now <= 5; now++) {
                int hour = now;
                Edge.not(() -> Edge.at(Edge.RIDE, hour), 7, y -> y.shift(0, 9));
            }
            CageLeave x = Edge.at(Edge.RIDE, 6);
            Kit.yes(x, x.shift(0, 9));
            x = Kit.park(Edge.RIDE);
            Kit.yes(x, x.shift(0, 9));
            // At HOUR 64 who came just then is on it still; behind the MONDAY it is empty.
            x = Edge.at(Edge.ZS + "train a from z to s at 63 takes 1;beast m out;ticket m a;", 64);
            Kit.not(x, x.shift(0, 0), 7);
            x.monday();
            Kit.yes(x, x.shift(0, 0));
        });
    }

    private static void hunt() {
        Edge.of("Promise 26", "The first BEAST HUNTS the second, or does not (1: one and itself, too; 7: it is so).", () -> {
            CageLeave x = Kit.park(Edge.FULL);
            Kit.yes(x, x.hunt(7, 0, true));
            Kit.is(x, x.beast(7, 6), 1);
            Kit.is(x, x.beast(0, 6), 0);
            Kit.yes(x, x.hunt(0, 7, true));
            Kit.yes(x, x.hunt(7, 0, false));
            Kit.is(x, x.beast(7, 6), 0);
            Kit.is(x, x.beast(0, 6), 128);
            for (int b : new int[] {-1, 3, Integer.MIN_VALUE, Integer.MAX_VALUE}) {
                Edge.not(1, y -> y.hunt(b, 0, true));
                Edge.not(1, y -> y.hunt(0, b, true));
                Edge.not(1, y -> y.hunt(0, b, false));
                Edge.not(1, y -> y.hunt(b, b, false));
            }
            for (int b = 0; b < 3; b++) {
                int same = b;
                Edge.not(1, y -> y.hunt(same, same, true));
                Edge.not(1, y -> y.hunt(same, same, false));
            }
            Edge.not(7, y -> y.hunt(0, 1, true));
            Edge.not(7, y -> y.hunt(1, 0, false));
            Edge.not(7, y -> y.hunt(0, 2, false));
            Edge.not(7, y -> y.hunt(2, 0, true));
        });
    }

    private static void mournAndRule() {
        Edge.of("Promise 27", "Who is EATEN comes again, in PLACE 0 (1; 7: it is not EATEN).", () -> {
            CageLeave x = Edge.rich();
            Kit.yes(x, x.mourn(1));
            Kit.is(x, x.at(1), 0);
            Kit.is(x, x.there(0), 2);
            Kit.is(x, x.told(7), 0);
            Kit.is(x, x.beast(1, 3), 0);
            Kit.not(x, x.mourn(1), 7);
            // Who is in PLACE 0 already stays there.
            x = Edge.at("place z;place s;train a from z to s at 0 takes 5;beast m out;beast n out;beast o;beast p out;"
                + "ticket m a;ticket n a;hunts m n;", 9);
            Kit.is(x, x.there(0), 12);
            Kit.yes(x, x.mourn(1));
            Kit.is(x, x.there(0), 14);
            // In the midst of a WEEK it goes on from PLACE 0.
            x = Edge.at(Edge.RIDE + "train b from z to s at 9 takes 1;ticket n a b;hunts m n;", 5);
            Kit.is(x, x.told(7), 2);
            Kit.yes(x, x.mourn(1));
            Kit.is(x, x.hour(5), 0);
            Kit.is(x, x.at(1), 11);
            Kit.is(x, x.hour(1), 2);
            for (int b : new int[] {-1, 3, Integer.MIN_VALUE, Integer.MAX_VALUE}) { Edge.not(1, y -> y.mourn(b)); }
            Edge.not(7, y -> y.mourn(0));
            Edge.not(7, y -> y.mourn(2));
            Edge.not(CageLeave::new, 1, y -> y.mourn(0));
        });
        Edge.of("Promise 28", "ODDS from now on (0 to 16) (1).", () -> {
            CageLeave x = Edge.rich();
            for (int odds = 0; odds <= 16; odds++) {
                Kit.yes(x, x.rule(odds));
                Kit.is(x, x.told(3), odds);
            }
            Kit.yes(x, x.rule(16));
            for (int odds : new int[] {-1, 17, Integer.MIN_VALUE, Integer.MAX_VALUE}) { Edge.not(1, y -> y.rule(odds)); }
            x = new CageLeave();
            Kit.yes(x, x.rule(16));
            Kit.is(x, x.told(3), 16);
            Edge.not(CageLeave::new, 1, y -> y.rule(17));
        });
    }
}
