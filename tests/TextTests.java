/** Promises 9 to 12 with the FAULTS of "Terms" 1 and 4. */
public final class TextTests {
    public static void main(String[] args) {
        feed();
        park();
        parkTakenAnew();
        tokens();
        parkPlaces();
        parkNames();
        parkNumbers();
        parkTwice();
        parkTooMany();
        weeks();
        weeksFaults();
        weeksDepth();
        fault();
        Kit.end("TextTests");
    }

    private static void feed() {
        Kit.promise("promise 9");
        CageLeave x = new CageLeave();
        for (int i = 1; i <= 45; i++) { Kit.due(x.feed(0x20202020, 0x20202020, 0x20202020, 0x20202020, 0x20202020), 20 * i); }
        Kit.due(x.feed(0, 0, 0, 0, 0), -1);
        Kit.due(x.status(), 0);
        Kit.is(x, x.park(900), 0);
        Kit.due(x.feed(0x6f646473, 0x20313b20, 0x706c6163, 0x6520703b, 0x3b000000), 20);
        Kit.is(x, x.park(16), 0);
        Kit.is(x, x.told(0), 1);
        Kit.is(x, x.told(3), 1);
        x.feed(0x6f646473, 0x20313b20, 0x706c6163, 0x6520703b, 0x3b000000);
        Kit.none(x, x.park(20), 9);
        Kit.due(x.fault(1), 16);
    }

    private static void park() {
        Kit.promise("promise 10");
        CageLeave x = new CageLeave();
        int n = Kit.feed(x, "place p;beast b;beast c;");
        Kit.none(x, x.park(-1), 1);
        Kit.none(x, x.park(41), 1);
        Kit.is(x, x.park(n), 2);
        Kit.none(x, x.park(1), 1);
        Kit.is(x, x.park(0), 0);
        Kit.is(x, x.told(0), 0);
        n = Kit.feed(x, "place p;beast b;beast c;");
        Kit.is(x, x.park(n - 8), 1);
        Kit.none(x, Kit.tellPark(x, "place q;place q;"), 9);
        Kit.is(x, x.told(0), 1);
        Kit.is(x, x.told(2), 1);
        Kit.none(x, x.park(1), 1);
        x = Kit.park("place p;place q;train t from p to q at 63 takes 24 seats 1;train u from q to p at 0 takes 1;"
            + "beast b size 9 trust 0 out;beast c trust 16;beast d size 2 out;beast e;hunts b c;hunts c b;hunts b e;"
            + "ticket b t u;ticket c u;ticket b u t;ticket d t;ticket d;");
        Kit.is(x, x.told(3), 2);
        int[][] trains = {{0, 1, 63, 24, 1, 0, 0}, {1, 0, 0, 1, 9, 0, 0}};
        int[][] beasts = {{9, 0, 1, 0, 0, 3, 10}, {1, 16, 0, 0, 0, 2, 1}, {2, 8, 1, 0, 0, 0, 0}, {1, 8, 0, 0, 0, 0, 0}};
        for (int what = 0; what < 7; what++) {
            for (int k = 0; k < 2; k++) { Kit.is(x, x.train(k, what), trains[k][what]); }
            for (int b = 0; b < 4; b++) { Kit.is(x, x.beast(b, what), beasts[b][what]); }
        }
        Kit.is(x, x.told(6), 5);
        Kit.is(x, x.there(0), 15);
    }

    private static void parkTakenAnew() {
        Kit.promise("promise 10: in place of that ahead");
        CageLeave x = Kit.weeks(Kit.ZOO, "hour 64;monday;hour 13;");
        Kit.yes(x, x.halt(4, true));
        Kit.is(x, x.live(1), 3);
        Kit.is(x, x.told(7), 2);
        Kit.is(x, Kit.tellPark(x, Kit.ZOO), 3);
        int[] told = {3, 5, 3, 4, 0, 0, 3, 0, 0, 0, 0};
        for (int what = 0; what < 11; what++) { Kit.is(x, x.told(what), told[what]); }
        Kit.is(x, x.there(0), 7);
        Kit.none(x, x.live(0), 6);
        Kit.is(x, x.lived(0), 0);
        Kit.is(x, Kit.tellPark(x, "place a;place b;beast l;"), 1);
        Kit.is(x, x.told(3), 2);
        Kit.is(x, x.beast(0, 5), 0);
        Kit.is(x, x.beast(0, 6), 0);
        Kit.is(x, x.told(6), 0);
        Kit.none(x, x.train(0, 0), 1);
        Kit.none(x, x.there(2), 1);
    }

    private static void tokens() {
        Kit.promise("TOKENS");
        Kit.is(Kit.park("odds2;place p;beast b size0009trust0016out;"), 0, 0);
        CageLeave x = Kit.park("\n\nodds\n2 ;place   p\n;beast b size0009trust0016out;  \n");
        Kit.is(x, x.beast(0, 0), 9);
        Kit.is(x, x.beast(0, 1), 16);
        Kit.is(x, x.beast(0, 2), 1);
        Kit.is(Kit.park("place oddss;place ab;place abcdefgh;"), 0, 0);
        Kit.parkFault("odds 2;\tplace p;", 1, 7);
        Kit.parkFault("odds 2;\rplace p;", 1, 7);
        Kit.parkFault("Odds 2;", 1, 0);
        Kit.parkFault("odds 2:", 1, 6);
        Kit.parkFault("odds -2;", 1, 5);
        Kit.parkFault("odds 2;\u00e9", 1, 7);
        Kit.parkFault("odds 2;\u0000", 1, 7);
        Kit.parkFault("odds 00002;", 1, 5);
        Kit.parkFault("odds 123456789012345;", 1, 5);
        Kit.parkFault("12345", 1, 0);
        Kit.parkFault("odds 17 ?", 4, 5);
        Kit.parkFault("odds ? 17", 1, 5);
        Kit.parkFault("place p`;", 1, 7);
        Kit.parkFault("place p{;", 1, 7);
        Kit.parkFault("odds 1/;", 1, 6);
    }

    private static void parkPlaces() {
        Kit.promise("FAULT 2");
        Kit.parkFault("odds", 2, 4);
        Kit.parkFault("odds  ", 2, 6);
        Kit.parkFault("odds 2", 2, 6);
        Kit.parkFault("odds p;", 2, 5);
        Kit.parkFault("odds ;", 2, 5);
        Kit.parkFault("odds 2 3;", 2, 7);
        Kit.parkFault("odds 2=", 2, 6);
        Kit.parkFault("odds 2 59", 2, 7);
        Kit.parkFault(";", 2, 0);
        Kit.parkFault("odds 2;;", 2, 7);
        Kit.parkFault("hour 2;", 2, 0);
        Kit.parkFault("oddss 2;", 2, 0);
        Kit.parkFault("7", 2, 0);
        Kit.parkFault("=", 2, 0);
        String[] reserved = ("odds place train from to at takes seats beast size trust out hunts ticket hour monday buy let"
            + " halt any when in eaten clock loop end stop").split(" ");
        for (String word : reserved) { Kit.parkFault("place " + word + ";", 2, 6); }
        Kit.parkFault("place abcdefghi;", 2, 6);
        Kit.parkFault("abcdefghi", 2, 0);
        Kit.parkFault("place 5;", 2, 6);
        Kit.parkFault("place p q;", 2, 8);
        String pq = "place p;place q;";
        Kit.parkFault(pq + "train t at 5", 2, 24);
        Kit.parkFault(pq + "train t from p at", 2, 31);
        Kit.parkFault(pq + "train t from p to q takes 5", 2, 36);
        Kit.parkFault(pq + "train t from p to q at 5;", 2, 40);
        Kit.parkFault(pq + "train t from p to q at 5 seats 5;", 2, 41);
        Kit.parkFault(pq + "train t from p to q at 5 takes 5 seats;", 2, 54);
        Kit.parkFault(pq + "train t from p to q at 5 takes 5 out;", 2, 49);
        Kit.parkFault(pq + "beast b trust 5 size 5;", 2, 32);
        Kit.parkFault(pq + "beast b out trust 5;", 2, 28);
        Kit.parkFault(pq + "beast b size;", 2, 28);
        Kit.parkFault(pq + "beast b size 5 size 5;", 2, 31);
        Kit.parkFault(pq + "beast b;hunts b out;", 2, 32);
        Kit.parkFault(pq + "beast b;ticket;", 2, 30);
        Kit.parkFault(pq + "beast b;ticket b 5;", 2, 33);
        Kit.parkFault(pq + "beast b;ticket b to;", 2, 33);
        Kit.parkFault(pq + "beast b;ticket b abcdefghi;", 2, 33);
    }

    private static void parkNames() {
        Kit.promise("FAULT 3");
        String all = "place p;place q;train t from p to q at 5 takes 5;beast b;beast c;";
        Kit.parkFault(all + "place q;", 3, all.length() + 6);
        Kit.parkFault(all + "place t;", 3, all.length() + 6);
        Kit.parkFault(all + "place b;", 3, all.length() + 6);
        Kit.parkFault(all + "train p from", 3, all.length() + 6);
        Kit.parkFault(all + "train t from", 3, all.length() + 6);
        Kit.parkFault(all + "train c from", 3, all.length() + 6);
        Kit.parkFault(all + "beast p;", 3, all.length() + 6);
        Kit.parkFault(all + "beast t;", 3, all.length() + 6);
        Kit.parkFault(all + "beast b;", 3, all.length() + 6);
        Kit.parkFault(all + "train u from b to q", 3, all.length() + 13);
        Kit.parkFault(all + "train u from u to q", 3, all.length() + 13);
        Kit.parkFault(all + "train u from p to t", 3, all.length() + 18);
        Kit.parkFault(all + "train u from p to x", 3, all.length() + 18);
        Kit.parkFault(all + "hunts p b;", 3, all.length() + 6);
        Kit.parkFault(all + "hunts b t;", 3, all.length() + 8);
        Kit.parkFault(all + "hunts b x;", 3, all.length() + 8);
        Kit.parkFault(all + "ticket t t;", 3, all.length() + 7);
        Kit.parkFault(all + "ticket b b;", 3, all.length() + 9);
        Kit.parkFault(all + "ticket b t p;", 3, all.length() + 11);
        Kit.parkFault("beast b;", 3, 6);
        Kit.parkFault("beast abcdefghi;", 2, 6);
        Kit.parkFault("beast 7;", 2, 6);
        Kit.parkFault("train t from t to t at 1 takes 1;", 3, 13);
        Kit.parkFault("ticket b;place p;beast b;", 3, 7);
    }

    private static void parkNumbers() {
        Kit.promise("FAULT 4");
        Kit.parkFault("odds 17;", 4, 5);
        String pq = "place p;place q;";
        String t = pq + "train t from p to q at ";
        Kit.parkFault(t + "64 takes", 4, t.length());
        Kit.parkFault(t + "0 takes 0;", 4, t.length() + 8);
        Kit.parkFault(t + "0 takes 25;", 4, t.length() + 8);
        Kit.parkFault(t + "0 takes 1 seats 0;", 4, t.length() + 16);
        Kit.parkFault(t + "0 takes 1 seats 10;", 4, t.length() + 16);
        Kit.parkFault(pq + "beast b size 0;", 4, 29);
        Kit.parkFault(pq + "beast b size 10;", 4, 29);
        Kit.parkFault(pq + "beast b trust 17;", 4, 30);
        CageLeave x = Kit.park("odds 0;" + t + "0 takes 1 seats 9;beast b size 1 trust 0;");
        Kit.is(x, x.told(3), 0);
        Kit.is(x, x.train(0, 2), 0);
        x = Kit.park("odds 16;" + t + "63 takes 24 seats 1;beast b size 9 trust 16;");
        Kit.is(x, x.told(3), 16);
        Kit.is(x, x.train(0, 2), 63);
    }

    private static void parkTwice() {
        Kit.promise("FAULT 5");
        Kit.parkFault("odds 1;odds 1;", 5, 7);
        Kit.parkFault("odds 1;place p;odds", 5, 15);
        String all = "place p;place q;train t from p to q at 5 takes 5;beast b;beast c;";
        Kit.parkFault(all + "train u from q to q at", 5, all.length() + 18);
        Kit.parkFault(all + "hunts b b;", 5, all.length() + 8);
        Kit.parkFault(all + "hunts b c;hunts c b;hunts b c;", 5, all.length() + 28);
        Kit.parkFault(all + "ticket b t t;", 5, all.length() + 11);
    }

    private static void parkTooMany() {
        Kit.promise("FAULT 6");
        Kit.parkFault("place a;place b;place c;place d;place e;place f;place a;", 6, 48);
        StringBuilder s = new StringBuilder("place p;place q;");
        for (int i = 0; i < 8; i++) { s.append("train ").append((char) ('a' + i)).append(" from p to q at 5 takes 5;"); }
        CageLeave x = Kit.park(s.toString());
        Kit.is(x, x.told(1), 8);
        Kit.parkFault(s + "train ? ", 6, s.length());
        Kit.parkFault(s + "trains", 2, s.length());
        s = new StringBuilder("place p;place q;");
        for (int i = 0; i < 8; i++) { s.append("beast ").append((char) ('a' + i)).append(";"); }
        x = new CageLeave();
        Kit.is(x, Kit.tellPark(x, s.toString()), 8);
        Kit.parkFault(s + "beast a", 6, s.length());
        Kit.is(Kit.park("place a;place b;place c;place d;place e;place f;"), 0, 0);
    }

    private static void weeks() {
        Kit.promise("promise 11");
        CageLeave x = Kit.park(Kit.ZOO);
        int n = Kit.feed(x, "hour 3;monday;");
        Kit.none(x, x.weeks(-1), 1);
        Kit.none(x, x.weeks(21), 1);
        Kit.is(x, x.weeks(n), 2);
        Kit.none(x, x.weeks(1), 1);
        Kit.is(x, x.live(0), 2);
        Kit.is(x, Kit.tellWeeks(x, "when in l s;hour 1;end;when eaten g;any;end;when clock<64;loop 99;let l;stop;end;end;"
            + "buy l a;halt b;when clock=0;end;when clock > 3;end;"), 12);
        Kit.none(x, Kit.tellWeeks(x, "hour"), 9);
        Kit.none(x, x.weeks(1), 1);
        Kit.due(x.live(0) > 2, true);
        n = Kit.feed(x, "hour 1;" + " ".repeat(320));
        Kit.none(x, x.weeks(301), 1);
        Kit.is(x, x.weeks(300), 1);
        Kit.is(x, x.weeks(0), 0);
        Kit.is(x, x.live(0), 0);
        x = new CageLeave();
        Kit.is(x, Kit.tellWeeks(x, "any;"), 1);
        Kit.none(x, Kit.tellWeeks(x, "let b;"), 9);
        Kit.due(x.fault(0), 3);
    }

    private static void weeksFaults() {
        Kit.promise("FAULTS of WEEKS");
        Kit.weeksFault("hour 3;Any", 1, 7);
        Kit.weeksFault("hour 00003;", 1, 5);
        Kit.weeksFault("hour", 2, 4);
        Kit.weeksFault("place p;", 2, 0);
        Kit.weeksFault("l;", 2, 0);
        Kit.weeksFault(";", 2, 0);
        Kit.weeksFault("any any;", 2, 4);
        Kit.weeksFault("end;", 2, 0);
        Kit.weeksFault("loop 3;end;end;", 2, 11);
        Kit.weeksFault("loop 3;any;", 2, 11);
        Kit.weeksFault("when clock=3; ", 2, 14);
        Kit.weeksFault("loop 3;end", 2, 10);
        Kit.weeksFault("when l z;", 2, 5);
        Kit.weeksFault("when out;", 2, 5);
        Kit.weeksFault("when clock 3;", 2, 11);
        Kit.weeksFault("when clock;3;", 2, 10);
        Kit.weeksFault("when clock<;", 2, 11);
        Kit.weeksFault("when clock<=3;", 2, 11);
        Kit.weeksFault("let 3;", 2, 4);
        Kit.weeksFault("let out;", 2, 4);
        Kit.weeksFault("let abcdefghi;", 2, 4);
        Kit.weeksFault("buy l;", 2, 5);
        Kit.weeksFault("buy a l;", 3, 4);
        Kit.weeksFault("buy l z;", 3, 6);
        Kit.weeksFault("let x;", 3, 4);
        Kit.weeksFault("let a;", 3, 4);
        Kit.weeksFault("halt l;", 3, 5);
        Kit.weeksFault("when in a z;end;", 3, 8);
        Kit.weeksFault("when in l a;end;", 3, 10);
        Kit.weeksFault("when eaten z;end;", 3, 11);
        Kit.weeksFault("hour 0;", 4, 5);
        Kit.weeksFault("hour 65;", 4, 5);
        Kit.weeksFault("loop 0;end;", 4, 5);
        Kit.weeksFault("loop 100;end;", 4, 5);
        Kit.weeksFault("when clock<65;end;", 4, 11);
        Kit.is(Kit.weeks(Kit.ZOO, "hour 1;hour 64;loop 1;end;loop 99;end;when clock<0;end;when clock>64;end;"), 0, 0);
    }

    private static void weeksDepth() {
        Kit.promise("FAULTS 6, 7 of WEEKS");
        String deep = "loop 2;when clock<5;loop 2;";
        Kit.is(Kit.weeks(Kit.ZOO, deep + "any;end;end;end;" + deep + "end;end;end;"), 0, 0);
        Kit.weeksFault(deep + "loop ?", 7, deep.length());
        Kit.weeksFault(deep + "when in", 7, deep.length());
        Kit.weeksFault(deep + "end;loop 2;loop", 7, deep.length() + 11);
        String thirty = "any;".repeat(30);
        CageLeave x = Kit.park(Kit.ZOO);
        Kit.is(x, Kit.tellWeeks(x, thirty), 30);
        Kit.weeksFault(thirty + "any;", 6, 120);
        Kit.weeksFault(thirty + "end;", 2, 120);
        Kit.weeksFault(thirty + "from;", 2, 120);
        String full = deep + "any;".repeat(27);
        Kit.is(Kit.weeks(Kit.ZOO, full + "end;end;end;"), 0, 0);
        Kit.weeksFault(full + "loop 2;", 6, full.length());
        Kit.weeksFault(full + "end;end;end;stop;", 6, full.length() + 12);
    }

    private static void fault() {
        Kit.promise("promise 12");
        CageLeave x = new CageLeave();
        Kit.due(x.fault(0), -1);
        Kit.due(x.fault(1), -1);
        Kit.none(x, x.park(1), 1);
        Kit.due(x.fault(0), -1);
        Kit.none(x, Kit.tellPark(x, "odds 99;"), 9);
        Kit.due(x.fault(0), 4);
        Kit.due(x.fault(1), 5);
        Kit.due(x.fault(2), -1);
        Kit.due(x.fault(-1), -1);
        Kit.none(x, x.weeks(1), 1);
        Kit.due(x.fault(0), 4);
        Kit.due(x.status(), 1);
        Kit.is(x, x.weeks(0), 0);
        Kit.due(x.fault(0), 0);
        Kit.due(x.fault(1), -1);
        Kit.none(x, Kit.tellWeeks(x, "end;"), 9);
        Kit.due(x.fault(0), 2);
        Kit.due(x.fault(1), 0);
        Kit.is(x, x.park(0), 0);
        Kit.due(x.fault(0), 0);
    }
}
