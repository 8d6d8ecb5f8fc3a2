/** Sentences of "Terms" 1 on a PARK's text, promises 9, 10 and 12. */
final class EdgesOfTexts {
    private static final String KEPT = "odds place train from to at takes seats beast size trust out hunts ticket hour"
        + " monday buy let halt any when in eaten clock loop end stop";
    /** Two PLACES, a TRAIN, two BEASTS. */
    private static final String ALL = "place p;place q;train t from p to q at 5 takes 5;beast b;beast c;";
    private static final String PQ = "place p;place q;";

    private EdgesOfTexts() { }

    static void go() {
        tokens();
        words();
        grammar();
        names();
        numbers();
        many();
        firstFault();
        faultOne();
        faultTwo();
        faultThree();
        faultFour();
        faultFive();
        faultSix();
        taken();
        feed();
        park();
        fault();
    }

    private static void bad(String text, int kind, int place) { Kit.parkFault(text, kind, place); }

    /** A FAULT at the last TOKEN of what is ahead and the rest together. */
    private static void bad(String ahead, int kind, String wrong) { Kit.parkFault(ahead + wrong, kind, ahead.length()); }

    private static CageLeave good(String text) { return Kit.park(text); }

    private static String blanks(int many) { return " ".repeat(many); }

    private static void tokens() {
        Edge.of("Terms 1", "A PARK is a TEXT of at most 900 bytes.", () -> {
            CageLeave x = good("place p;" + blanks(884) + "place q;");
            Kit.is(x, x.told(0), 2);
            x = good("place p;" + blanks(884) + "beast b;");
            Kit.is(x, x.told(2), 1);
            bad("place p;" + blanks(891), 2, "=");
            bad("place p;" + blanks(884) + "place q", 2, "=");
            bad("place p" + blanks(893), 2, "");
            Edge.none(EdgesOfTexts::fullTape, 1, y -> y.park(901));
            Edge.none(EdgesOfTexts::fullTape, 1, y -> y.park(Integer.MAX_VALUE));
        });
        Edge.of("Terms 1", "TOKENS, as long as they go,", () -> {
            bad("placep;", 2, 0);
            bad("odds 2;placeq;", 2, 7);
            bad("place p;beast bsize 2;", 2, 20);
            bad("place p;beast b outt;", 2, 16);
            good("place p;beast bout;");
            CageLeave x = good("odds 16;");
            Kit.is(x, x.told(3), 16);
            bad("odds 1 6;", 2, 7);
            // A WORD of 9 letters is none of 8 and one more.
            bad("place abcdefghi;", 2, 6);
            bad("odds 00016;", 1, 5);
        });
        Edge.of("Terms 1", "between them blanks (10, 32):", () -> {
            CageLeave x = good("\n\n  place\np \n;odds \n 3 ; \n");
            Kit.is(x, x.told(0), 1);
            Kit.is(x, x.told(3), 3);
            // Where two TOKENS can't be one, no blank is due.
            x = good("odds3;place p;beast b size2trust3out;");
            Kit.is(x, x.told(3), 3);
            Kit.is(x, x.beast(0, 0), 2);
            Kit.is(x, x.beast(0, 1), 3);
            good("");
            good(" ");
            good("\n");
            for (int c = 0; c < 256; c++) { behind(c); }
        });
    }

    private static CageLeave fullTape() {
        CageLeave x = Edge.rich();
        x.park(0);
        Kit.feed(x, blanks(900));
        return x;
    }

    /** Any byte behind a PART. */
    private static void behind(int c) {
        String text = "odds 2;" + (char) c;
        if (c == 10 || c == 32) {
            good(text);
            return;
        }
        bad(text, Edge.begins(c) ? 2 : 1, 7);
    }

    private static void words() {
        Edge.of("Terms 1", "WORDS (small letters),", () -> {
            for (int c = 0; c < 256; c++) {
                String text = "place m" + (char) c + "m;";
                if (c >= 'a' && c <= 'z') {
                    good(text);
                } else if (c == 10 || c == 32) {
                    bad(text, 2, 8);
                } else if (c >= '0' && c <= '9' || c == '<' || c == '>' || c == '=') {
                    bad(text, 2, 7);
                } else if (c == ';') {
                    bad(text, 2, 8);
                } else {
                    bad(text, 1, 7);
                }
            }
            good("place a;place z;place azazazaz;");
        });
        Edge.of("Terms 1", "NUMBERS (1 to 4 digits),", () -> {
            for (int c = '0'; c <= '9'; c++) {
                CageLeave x = good("odds " + (char) c + ";");
                Kit.is(x, x.told(3), c - '0');
            }
            for (String number : new String[] {"7", "07", "007", "0007"}) {
                CageLeave x = good("odds " + number + ";");
                Kit.is(x, x.told(3), 7);
            }
            for (int c = 0; c < 256; c++) {
                boolean digit = c >= '0' && c <= '9';
                if (!digit && c != 10 && c != 32 && c != ';') { bad("odds 1" + (char) c, Edge.begins(c) ? 2 : 1, 6); }
            }
            bad("odds 9999;", 4, 5);
            bad("odds 00007;", 1, 5);
            bad("odds 10000;", 1, 5);
        });
        Edge.of("Terms 1", "SIGNS ; < > =", () -> {
            for (String sign : new String[] {";", "<", ">", "="}) {
                bad("", 2, sign);
                bad("odds ", 2, sign);
                bad("place p;beast b ", 2, sign.equals(";") ? "=" : sign);
            }
            for (String none : new String[] {"<=", ">=", "=="}) { bad("odds 2;", 2, none); }
            for (String none : new String[] {":", "?", ",", ".", "(", "-", "+", "!", "#"}) { bad("odds 2", 1, none); }
        });
    }

    private static void grammar() {
        Edge.of("Terms 1", "PARK: {PART}. PART:", () -> {
            CageLeave x = good("");
            Kit.is(x, x.told(0), 0);
            Kit.is(x, Kit.tellPark(x, "place p;"), 0);
            Kit.is(x, Kit.tellPark(x, "place p;beast b;place q;odds 3;beast c;"), 2);
            for (String word : "p from to at takes seats size trust out hour monday buy let halt any when in eaten clock loop end stop".split(" ")) {
                bad("", 2, word);
                bad("odds 2;", 2, word);
            }
            bad("", 2, "5");
            bad("", 2, ";");
            bad("odds 2;", 2, ";");
        });
        Edge.of("Terms 1", "odds NUMBER ;", () -> part("", "odds 2 ;"));
        Edge.of("Terms 1", "or place NAME ;", () -> part("", "place p ;"));
        Edge.of("Terms 1", "or train NAME from NAME to NAME at NUMBER takes NUMBER [seats NUMBER] ;", () -> {
            part(PQ, "train t from p to q at 5 takes 5 ;");
            part(PQ, "train t from p to q at 5 takes 5 seats 5 ;");
            String t = PQ + "train t from p to q at 5 takes 5 ";
            bad(t + "seats 5 ", 2, "seats 5;");
            bad(t, 2, "size 5;");
            bad(t, 2, "5;");
            bad(PQ + "train t ", 2, "to q from p at 5 takes 5;");
            bad(PQ + "train t from p to q ", 2, "takes 5 at 5;");
        });
        Edge.of("Terms 1", "or beast NAME [size NUMBER] [trust NUMBER] [out] ;", () -> {
            String[] perhaps = {" size 7", " trust 7", " out"};
            for (int some = 0; some < 8; some++) {
                StringBuilder s = new StringBuilder("beast b");
                for (int i = 0; i < 3; i++) { s.append((some >> i & 1) == 1 ? perhaps[i] : ""); }
                part("place p;", s + " ;");
                CageLeave x = good("place p;" + s + ";");
                Kit.is(x, x.beast(0, 0), (some & 1) == 1 ? 7 : 1);
                Kit.is(x, x.beast(0, 1), (some & 2) == 2 ? 7 : 8);
                Kit.is(x, x.beast(0, 2), some >> 2);
            }
            String b = "place p;beast b ";
            bad(b + "trust 7 ", 2, "size 7;");
            bad(b + "out ", 2, "size 7;");
            bad(b + "out ", 2, "trust 7;");
            bad(b + "out ", 2, "out;");
            bad(b + "size 7 ", 2, "size 7;");
            bad(b + "trust 7 ", 2, "trust 7;");
            bad(b, 2, "seats 7;");
            bad(b, 2, "7;");
        });
        Edge.of("Terms 1", "or hunts NAME NAME ;", () -> {
            part(ALL, "hunts b c ;");
            bad(ALL + "hunts b c ", 2, "b;");
        });
        Edge.of("Terms 1", "or ticket NAME {NAME} ;", () -> {
            part(ALL, "ticket b ;");
            part(ALL, "ticket b t ;");
            String eight = PQ + Edge.times("train # from p to q at 5 takes 5;", 8) + "beast z;";
            part(eight, "ticket z a b c d e f g h ;");
            CageLeave x = good(eight + "ticket z h g f e d c b a;");
            Kit.is(x, x.beast(0, 5), 255);
        });
        Edge.of("Terms 1", "({ } any number of times, [ ] perhaps.)", () -> {
            CageLeave x = good(ALL + "ticket b;ticket c t;train u from q to p at 0 takes 1 seats 1;beast d out;");
            Kit.is(x, x.beast(0, 5), 0);
            Kit.is(x, x.beast(1, 5), 1);
            Kit.is(x, x.train(0, 4), 9);
            Kit.is(x, x.train(1, 4), 1);
        });
    }

    /** A PART is taken; each of its TOKENS is missed, and where one stands another one can't. */
    private static void part(String ahead, String part) {
        good(ahead + part);
        String[] token = part.split(" ");
        StringBuilder s = new StringBuilder(ahead);
        for (int i = 0; i < token.length; i++) {
            bad(s.toString(), 2, "=");
            bad(s.toString(), 2, "= " + part);
            if (i > 0) { bad(s.toString(), 2, ""); }
            if (i > 0) { bad(s.toString(), 1, "?"); }
            s.append(token[i]).append(' ');
        }
    }

    private static void names() {
        Edge.of("Terms 1", "NAME: a WORD of 1 to 8 letters", () -> {
            good("place a;place z;place abcdefgh;place zzzzzzzz;");
            bad("place ", 2, "abcdefghi;");
            bad("place ", 2, "zzzzzzzzz;");
            bad("place ", 2, Edge.times("abcdefghij", 30) + ";");
            // All of the letters tell NAMES apart.
            CageLeave x = good("place aaaaaaaa;place aaaaaaab;place baaaaaaa;place aaaaaaa;place a;place aa;");
            Kit.is(x, x.told(0), 6);
            x = good("place aaaaaaaa;place zaaaaaaa;train t from zaaaaaaa to aaaaaaaa at 1 takes 1;");
            Kit.is(x, x.train(0, 0), 1);
            Kit.is(x, x.train(0, 1), 0);
        });
        Edge.of("Terms 1", "that is none of odds, place, train, from, to, at, takes, seats, beast, size, trust, out, hunts, ticket,"
            + " hour, monday, buy, let, halt, any, when, in, eaten, clock, loop, end, stop.", () -> {
            for (String word : KEPT.split(" ")) {
                bad("place ", 2, word + ";");
                bad(PQ + "train ", 2, word + " from p to q at 1 takes 1;");
                bad(PQ + "beast ", 2, word + ";");
                bad(PQ + "train t from ", 2, word + ";");
                bad(ALL + "hunts ", 2, word + " c;");
                bad(ALL + "hunts b ", 2, word + ";");
                bad(ALL + "ticket ", 2, word + ";");
                bad(ALL + "ticket b ", 2, word + ";");
                good("place " + word + "s;");
                good("place x" + word + ";");
                good("place " + word.substring(0, word.length() - 1) + ";");
            }
        });
        Edge.of("Terms 1", "One NAME is of one thing alone.", () -> {
            for (String name : "p q t b c".split(" ")) {
                bad(ALL + "place ", 3, name + ";");
                bad(ALL + "train ", 3, name + " from p to q at 1 takes 1;");
                bad(ALL + "beast ", 3, name + ";");
            }
            good(ALL + "place r;train u from p to q at 1 takes 1;beast d;");
        });
        Edge.of("Terms 1", "HUNTS: the first BEAST the second one.", () -> {
            CageLeave x = good(ALL + "hunts b c;");
            Kit.is(x, x.beast(0, 6), 2);
            Kit.is(x, x.beast(1, 6), 0);
            x = good(PQ + Edge.times("beast #;", 8) + "hunts a h;hunts h a;hunts h g;");
            Kit.is(x, x.beast(0, 6), 128);
            Kit.is(x, x.beast(7, 6), 65);
            // Nobody at first, whatever the PARK ahead told.
            Kit.is(x, Kit.tellPark(x, PQ + Edge.times("beast #;", 8)), 8);
            for (int b = 0; b < 8; b++) { Kit.is(x, x.beast(b, 6), 0); }
        });
        Edge.of("Terms 1", "TICKET: a BEAST has TICKETS for TRAINS (none at first; told again: the latest).", () -> {
            String two = ALL + "train u from q to p at 5 takes 5;";
            int[] due = {0, 1, 2, 3, 2, 0, 3};
            String[] told = {"", "ticket b t;", "ticket b u;", "ticket b t u;", "ticket b t;ticket b u;", "ticket b t u;ticket b;",
                "ticket b t;ticket b t u;"};
            CageLeave x = null;
            for (int i = 0; i < due.length; i++) {
                x = good(two + told[i]);
                Kit.is(x, x.beast(0, 5), due[i]);
                Kit.is(x, x.beast(1, 5), 0);
            }
            // None at first, whatever the PARK ahead told.
            x = good(two + "ticket b t u;ticket c t;");
            Kit.is(x, Kit.tellPark(x, two), 2);
            Kit.is(x, x.beast(0, 5), 0);
            Kit.is(x, x.beast(1, 5), 0);
            // Of one told when fewer TRAINS were there.
            x = good(ALL + "ticket c t;train u from q to p at 5 takes 5;ticket b u;");
            Kit.is(x, x.beast(1, 5), 1);
        });
        Edge.of("Terms 1", "All are numbered as they stand; what a PART names must be told ahead.", () -> {
            CageLeave x = good("place p;beast b;place q;beast c size 2;train t from q to p at 1 takes 1;place r;"
                + "train u from r to q at 2 takes 1;");
            Kit.is(x, x.beast(0, 0), 1);
            Kit.is(x, x.beast(1, 0), 2);
            Kit.is(x, x.train(0, 0), 1);
            Kit.is(x, x.train(0, 1), 0);
            Kit.is(x, x.train(1, 0), 2);
            Kit.is(x, x.train(1, 1), 1);
            bad("place p;train t from ", 3, "q to p at 1 takes 1;place q;");
            bad("place p;train t from p to ", 3, "q at 1 takes 1;place q;");
            bad("place p;beast b;hunts b ", 3, "c;beast c;");
            bad("place p;beast c;hunts ", 3, "b c;beast b;");
            bad("place p;ticket ", 3, "b;beast b;");
            bad(PQ + "beast b;ticket b ", 3, "t;train t from p to q at 1 takes 1;");
        });
    }

    private static void numbers() {
        Edge.of("Terms 1", "ODDS (0 to 16; 2 without).", () -> {
            for (int odds = 0; odds <= 16; odds++) {
                CageLeave x = good("odds " + odds + ";");
                Kit.is(x, x.told(3), odds);
            }
            bad("odds ", 4, "17;");
            CageLeave x = good("place p;");
            Kit.is(x, x.told(3), 2);
            x = good("odds 9;");
            Kit.is(x, Kit.tellPark(x, "place p;"), 0);
            Kit.is(x, x.told(3), 2);
        });
        String t = PQ + "train t from p to q ";
        Edge.of("Terms 1", "FROM a PLACE TO another one,", () -> {
            String six = Edge.times("place #;", 6);
            for (int from = 0; from < 6; from++) {
                for (int to = 0; to < 6; to++) {
                    String text = six + "train t from " + (char) ('a' + from) + " to ";
                    if (from == to) {
                        bad(text, 5, (char) ('a' + to) + " at 1 takes 1;");
                    } else {
                        CageLeave x = good(text + (char) ('a' + to) + " at 1 takes 1;");
                        Kit.is(x, x.train(0, 0), from);
                        Kit.is(x, x.train(0, 1), to);
                    }
                }
            }
        });
        Edge.of("Terms 1", "AT an HOUR (0 to 63),", () -> {
            for (int at : new int[] {0, 1, 62, 63}) {
                CageLeave x = good(t + "at " + at + " takes 1;");
                Kit.is(x, x.train(0, 2), at);
            }
            bad(t + "at ", 4, "64 takes 1;");
            bad(t + "at ", 4, "9999 takes 1;");
        });
        Edge.of("Terms 1", "it TAKES so many (1 to 24),", () -> {
            for (int takes : new int[] {1, 2, 23, 24}) {
                CageLeave x = good(t + "at 1 takes " + takes + ";");
                Kit.is(x, x.train(0, 3), takes);
            }
            bad(t + "at 1 takes ", 4, "0;");
            bad(t + "at 1 takes ", 4, "25;");
        });
        Edge.of("Terms 1", "SEATS (1 to 9; 9 without).", () -> {
            for (int seats : new int[] {1, 2, 8, 9}) {
                CageLeave x = good(t + "at 1 takes 1 seats " + seats + ";");
                Kit.is(x, x.train(0, 4), seats);
            }
            CageLeave x = good(t + "at 1 takes 1;");
            Kit.is(x, x.train(0, 4), 9);
            x = good(t + "at 1 takes 1 seats 2;train u from p to q at 1 takes 1;");
            Kit.is(x, x.train(1, 4), 9);
            bad(t + "at 1 takes 1 seats ", 4, "0;");
            bad(t + "at 1 takes 1 seats ", 4, "10;");
        });
        Edge.of("Terms 1", "SIZE (1 to 9; 1 without),", () -> {
            for (int size : new int[] {1, 2, 8, 9}) {
                CageLeave x = good("place p;beast b size " + size + ";beast c;");
                Kit.is(x, x.beast(0, 0), size);
                Kit.is(x, x.beast(1, 0), 1);
            }
            bad("place p;beast b size ", 4, "0;");
            bad("place p;beast b size ", 4, "10;");
        });
        Edge.of("Terms 1", "TRUST (0 to 16; 8 without),", () -> {
            for (int trust : new int[] {0, 1, 15, 16}) {
                CageLeave x = good("place p;beast b trust " + trust + ";beast c;");
                Kit.is(x, x.beast(0, 1), trust);
                Kit.is(x, x.beast(1, 1), 8);
            }
            bad("place p;beast b trust ", 4, "17;");
        });
        Edge.of("Terms 1", "OUT (let out) or not.", () -> {
            CageLeave x = good("place p;beast b out;beast c;beast d out;");
            Kit.is(x, x.told(6), 5);
            Kit.is(x, x.beast(1, 2), 0);
            Kit.is(x, x.beast(2, 2), 1);
            Kit.is(x, Kit.tellPark(x, "place p;beast b;beast c out;"), 2);
            Kit.is(x, x.told(6), 2);
        });
    }

    private static void many() {
        Edge.of("Terms 1", "PLACES, at most 6: PLACE 0 is the cages.", () -> {
            for (int many = 0; many <= 6; many++) {
                CageLeave x = good(Edge.times("place #;", many));
                Kit.is(x, x.told(0), many);
                Kit.none(x, x.there(many), 1);
            }
            bad(Edge.times("place #;", 6), 6, "place x;");
            CageLeave x = good("place p;place q;beast b;");
            Kit.is(x, x.there(0), 1);
            Kit.is(x, x.there(1), 0);
        });
        Edge.of("Terms 1", "TRAINS, at most 8:", () -> {
            String train = "train # from p to q at 5 takes 5;";
            for (int many = 0; many <= 8; many++) {
                CageLeave x = good(PQ + Edge.times(train, many));
                Kit.is(x, x.told(1), many);
                Kit.none(x, x.train(many, 0), 1);
            }
            bad(PQ + Edge.times(train, 8), 6, "train x from p to q at 5 takes 5;");
        });
        Edge.of("Terms 1", "BEASTS, at most 8:", () -> {
            for (int many = 0; many <= 8; many++) {
                CageLeave x = new CageLeave();
                Kit.is(x, Kit.tellPark(x, PQ + Edge.times("beast #;", many)), many);
                Kit.is(x, x.told(2), many);
                Kit.is(x, x.there(0), (1 << many) - 1);
                Kit.none(x, x.beast(many, 0), 1);
            }
            bad(PQ + Edge.times("beast #;", 8), 6, "beast x;");
        });
    }

    private static void firstFault() {
        Edge.of("Terms 1", "FAULTS, the first along the text", () -> {
            // One FAULT of each kind, and any other one behind it.
            String[] wrong = {"?", "=", "hunts b x", "odds 17", "ticket b t t", "place k;place l;place m;place n;place o;"};
            int[] at = {0, 0, 8, 5, 11, 32};
            for (int i = 0; i < 6; i++) {
                for (String behind : wrong) { bad(ALL + wrong[i] + " " + behind, i + 1, ALL.length() + at[i]); }
            }
        });
        Edge.of("Terms 1", "(of one TOKEN the least kind):", () -> {
            bad("odds ", 1, "12345;");
            bad("place ", 1, "12345;");
            bad("odds 2 ", 1, "12345;");
            bad("", 1, "00000");
            bad("place ", 1, "P;");
            // Nothing is told ahead, and a new NAME it is not either.
            bad("beast ", 2, "out;");
        });
    }

    private static void faultOne() {
        Edge.of("Terms 1", "1 no TOKEN begins so (a NUMBER of 5 digits and more: at its first).", () -> {
            for (String number : new String[] {"00000", "10000", "99999", "000002", "4294967298", "18446744073709551618"}) {
                bad("odds ", 1, number + ";");
                bad(ALL + "beast d size ", 1, number + ";");
            }
            bad("odds 2", 1, "\t;");
            bad("odds ", 1, "-1;");
            bad("odds 1", 1, ".5;");
            bad("place ", 1, "\u00e9;");
            bad("place p", 1, "\u00e9;");
            bad("", 1, "\u00ff");
            bad("", 1, "\u0080");
            bad("", 1, "\u0000");
        });
    }

    private static void faultTwo() {
        Edge.of("Terms 1", "2 it can't stand there (the end: the text's length;", () -> {
            bad("odds", 2, 4);
            bad("odds ", 2, 5);
            bad("odds \n\n ", 2, 8);
            bad("odds 2", 2, 6);
            bad("odds 2;place p;beast b size", 2, 27);
            bad(ALL + "ticket b t", 2, "");
            bad(ALL + "ticket b t  ", 2, "");
            // What is on the tape behind the text is none of it.
            CageLeave x = new CageLeave();
            Kit.feed(x, "odds 2;place p;");
            Kit.none(x, x.park(6), 9);
            Kit.due(x.fault(0), 2);
            Kit.due(x.fault(1), 6);
            Kit.feed(x, "odds 12;");
            Kit.none(x, x.park(6), 9);
            Kit.due(x.fault(1), 6);
            Kit.feed(x, "place abc;place abd;");
            Kit.none(x, x.park(8), 9);
            Kit.due(x.fault(1), 8);
        });
        Edge.of("Terms 1", "a WORD of 9 letters and more where a NAME must stand).", () -> {
            for (String word : new String[] {"abcdefghi", "oddsoddso", "aaaaaaaaaaaaaaaaaaaaaaaaa"}) {
                bad("place ", 2, word + ";");
                bad(PQ + "train ", 2, word + " from p to q at 1 takes 1;");
                bad(PQ + "train t from ", 2, word + " to q at 1 takes 1;");
                bad(PQ + "train t from p to ", 2, word + " at 1 takes 1;");
                bad("beast ", 2, word + ";");
                bad(PQ + "beast ", 2, word + ";");
                bad(ALL + "hunts ", 2, word + " c;");
                bad(ALL + "hunts b ", 2, word + ";");
                bad(ALL + "ticket ", 2, word + ";");
                bad(ALL + "ticket b ", 2, word + ";");
                bad("", 2, word);
            }
        });
    }

    private static void faultThree() {
        Edge.of("Terms 1", "3 a new NAME that is taken; a NAME that is no such one told ahead.", () -> {
            bad(ALL + "place ", 3, "p;");
            bad(ALL + "train ", 3, "t from p to q at 1 takes 1;");
            bad(ALL + "beast ", 3, "c;");
            for (String no : "t b x u".split(" ")) {
                bad(ALL + "train u from ", 3, no + " to q at 1 takes 1;");
                bad(ALL + "train u from p to ", 3, no + " at 1 takes 1;");
            }
            for (String no : "p t x".split(" ")) {
                bad(ALL + "hunts ", 3, no + " c;");
                bad(ALL + "hunts b ", 3, no + ";");
                bad(ALL + "ticket ", 3, no + " t;");
            }
            for (String no : "p b x".split(" ")) {
                bad(ALL + "ticket b ", 3, no + ";");
                bad(ALL + "ticket b t ", 3, no + ";");
            }
            // A NAME that only the text ahead told, whether that was taken or not.
            for (String ahead : new String[] {PQ + "beast b;beast c;", PQ + "beast b;beast c;="}) {
                CageLeave x = new CageLeave();
                Kit.tellPark(x, ahead);
                Kit.none(x, Kit.tellPark(x, PQ + "beast b;hunts b c;"), 9);
                faultIs(x, 3, 32);
                Kit.none(x, Kit.tellPark(x, "place p;train t from p to q at 1 takes 1;"), 9);
                faultIs(x, 3, 26);
                Kit.is(x, Kit.tellPark(x, "place c;place b;"), 0);
            }
            // Where all the NAMES are told that there may be.
            bad(Edge.FULL + "hunts i ", 3, "q;");
            bad(Edge.FULL + "hunts ", 3, "q i;");
            bad(Edge.FULL + "ticket i ", 3, "q;");
        });
        Edge.of("Terms 1", "A beast without a place told ahead: 3 (at its NAME).", () -> {
            bad("beast ", 3, "b;");
            bad("odds 2;beast ", 3, "b;place p;");
            bad("beast ", 3, "b");
            bad("beast ", 2, ";");
            bad("beast ", 2, "");
            good("place p;beast b;");
        });
    }

    private static void faultFour() {
        Edge.of("Terms 1", "4 a NUMBER that can't be.", () -> {
            bad("odds ", 4, "17;");
            bad("odds ", 4, "9999;");
            String t = PQ + "train t from p to q at ";
            bad(t, 4, "64 takes 1;");
            bad(t + "1 takes ", 4, "0;");
            bad(t + "1 takes ", 4, "0000;");
            bad(t + "1 takes ", 4, "25;");
            bad(t + "1 takes 1 seats ", 4, "0;");
            bad(t + "1 takes 1 seats ", 4, "10;");
            bad("place p;beast b size ", 4, "0;");
            bad("place p;beast b size ", 4, "10;");
            bad("place p;beast b trust ", 4, "17;");
        });
    }

    private static void faultFive() {
        Edge.of("Terms 1", "5 odds told already (at that WORD);", () -> {
            bad("odds 2;", 5, "odds 2;");
            bad("odds 0;", 5, "odds 3;");
            bad("odds 2;" + ALL, 5, "odds");
            bad("odds 2;", 5, "odds 17;");
            CageLeave x = good("odds 3;");
            Kit.is(x, Kit.tellPark(x, "odds 4;"), 0);
            Kit.is(x, x.told(3), 4);
            Kit.none(x, Kit.tellPark(x, "odds 5;;"), 9);
            Kit.is(x, Kit.tellPark(x, "odds 6;"), 0);
        });
        Edge.of("Terms 1", "from, to one PLACE (at the second NAME);", () -> {
            bad(PQ + "train t from p to ", 5, "p at 1 takes 1;");
            bad(PQ + "train t from q to ", 5, "q");
            good(PQ + "train t from p to q at 1 takes 1;train u from p to q at 1 takes 1;train v from q to p at 1 takes 1;");
        });
        Edge.of("Terms 1", "a BEAST hunts itself, or one that it hunts already (at the second NAME);", () -> {
            bad(ALL + "hunts b ", 5, "b;");
            bad(ALL + "hunts c ", 5, "c;");
            bad(ALL + "hunts b c;hunts b ", 5, "c;");
            bad(ALL + "hunts b c;hunts c b;hunts b ", 5, "c;");
            good(ALL + "hunts b c;hunts c b;");
            good(ALL + "beast d;hunts b c;hunts b d;hunts d c;");
        });
        Edge.of("Terms 1", "a TRAIN twice behind one ticket (at that NAME).", () -> {
            String two = ALL + "train u from q to p at 5 takes 5;";
            bad(two + "ticket b t ", 5, "t;");
            bad(two + "ticket b t u ", 5, "t;");
            bad(two + "ticket b u t ", 5, "t u;");
            good(two + "ticket b t;ticket b t;ticket c t u;ticket b t u;");
        });
    }

    private static void faultSix() {
        Edge.of("Terms 1", "6 a seventh place, a ninth train, a ninth beast (at that WORD).", () -> {
            String[] full = {Edge.times("place #;", 6), PQ + Edge.times("train # from p to q at 5 takes 5;", 8), PQ + Edge.times("beast #;", 8)};
            String[] word = {"place", "train", "beast"};
            for (int i = 0; i < 3; i++) {
                good(full[i]);
                bad(full[i], 6, word[i]);
                bad(full[i], 6, word[i] + " ?");
                bad(full[i], 6, word[i] + " a");
                bad(full[i], 6, word[i] + " out;");
                bad(full[i] + " \n", 6, word[i] + " new;");
            }
        });
    }

    private static void taken() {
        Edge.of("Terms 1", "A PARK that is taken is there in place of that ahead; it is WEEK 0, HOUR 0;", () -> {
            CageLeave x = Edge.rich();
            x.park(0);
            int[] none = {0, 0, 0, 2, 0, 0, 0, 0, 0, 0, 0};
            for (int what = 0; what <= 10; what++) { Kit.is(x, x.told(what), none[what]); }
            Kit.is(x, Kit.tellPark(x, "odds 3;place p;place q;beast b;"), 1);
            int[] one = {2, 0, 1, 3, 0, 0, 0, 0, 0, 0, 0};
            for (int what = 0; what <= 10; what++) { Kit.is(x, x.told(what), one[what]); }
            Kit.none(x, x.there(2), 1);
            Kit.none(x, x.train(0, 0), 1);
            Kit.none(x, x.beast(1, 0), 1);
        });
        Edge.of("Terms 1", "all BEASTS are in PLACE 0, none is EATEN, LATE; all TRAINS go; there are no WEEKS told.", () -> {
            CageLeave x = Edge.rich();
            x.park(0);
            Kit.is(x, Kit.tellPark(x, Kit.ZOO), 3);
            Kit.is(x, x.there(0), 7);
            for (int b = 0; b < 3; b++) {
                Kit.is(x, x.at(b), 0);
                Kit.is(x, x.beast(b, 3), 0);
                Kit.is(x, x.beast(b, 4), 0);
            }
            for (int k = 0; k < 5; k++) {
                Kit.is(x, x.train(k, 5), 0);
                Kit.is(x, x.train(k, 6), 0);
            }
            Kit.none(x, x.live(0), 6);
            Kit.not(x, x.mean(0, 1), 6);
            // What was set by calls is as the text tells it, too.
            Kit.is(x, x.beast(2, 1), 16);
            Kit.is(x, x.beast(2, 6), 0);
            Kit.is(x, x.train(4, 2), 60);
            Kit.is(x, x.told(6), 3);
        });
    }

    private static void feed() {
        Edge.of("Promise 9", "Twenty bytes come behind those on the tape, the highest of each int first: how many it has;", () -> {
            CageLeave x = new CageLeave();
            // place p;place q;beas ; t b size 7 trust 5;
            Kit.due(x.feed(0x706c6163, 0x6520703b, 0x706c6163, 0x6520713b, 0x62656173), 20);
            Kit.due(x.feed(0x74206220, 0x73697a65, 0x20372074, 0x72757374, 0x20353b20), 40);
            Kit.is(x, x.park(40), 1);
            Kit.is(x, x.told(0), 2);
            Kit.is(x, x.beast(0, 0), 7);
            Kit.is(x, x.beast(0, 1), 5);
            // Each byte of each int: a wrong one is told at its place.
            for (int i = 0; i < 20; i++) {
                int[] five = {0x20202020, 0x20202020, 0x20202020, 0x20202020, 0x20202020};
                five[i / 4] ^= 0xa0 << 8 * (3 - i % 4);
                Kit.due(x.feed(five[0], five[1], five[2], five[3], five[4]), 20);
                Kit.none(x, x.park(20), 9);
                Kit.due(x.fault(0), 1);
                Kit.due(x.fault(1), i);
            }
        });
        Edge.of("Promise 9", "NONE if there would be more than 900.", () -> {
            CageLeave x = new CageLeave();
            for (int i = 1; i <= 45; i++) { Kit.due(x.feed(0x20202020, 0x20202020, 0x20202020, 0x20202020, 0x20202020), 20 * i); }
            Kit.due(x.feed(-1, -1, -1, -1, -1), -1);
            Kit.due(x.feed(-1, -1, -1, -1, -1), -1);
            Kit.is(x, x.park(900), 0);
            Kit.due(x.feed(-1, -1, -1, -1, -1), 20);
            Kit.none(x, x.park(900), 1);
        });
    }

    private static void park() {
        Edge.of("Promise 10", "The first n bytes of the tape (which is empty then) are the PARK: how many BEASTS", () -> {
            for (int n : new int[] {0, 8, 16, 24, 25, 40}) {
                CageLeave x = new CageLeave();
                Kit.feed(x, "place p;beast b;beast c;");
                x.feed(0x20202020, 0x20202020, 0x20202020, 0x20202020, 0x20202020);
                Kit.is(x, x.park(n), Math.max(0, Math.min(2, n / 8 - 1)));
                Kit.is(x, x.told(0), n == 0 ? 0 : 1);
                Kit.none(x, x.park(1), 1);
                Kit.due(x.feed(0, 0, 0, 0, 0), 20);
            }
            CageLeave x = new CageLeave();
            Kit.is(x, Kit.tellPark(x, PQ + Edge.times("beast #;", 8)), 8);
        });
        Edge.of("Promise 10", "(1: n below 0, or more than the tape has, too;", () -> {
            for (int n : new int[] {-1, 21, Integer.MIN_VALUE, Integer.MAX_VALUE}) { Edge.none(1, x -> x.park(n)); }
            CageLeave x = Edge.rich();
            Kit.is(x, x.park(20), 1);
            Edge.none(CageLeave::new, 1, y -> y.park(1));
            Edge.none(CageLeave::new, 1, y -> y.park(-1));
        });
        Edge.of("Promise 10", "9: the old one stays).", () -> {
            for (String text : new String[] {"?", "=", "beast b;", "odds 17;", "odds 1;odds 1;", Edge.times("place #;", 7)}) {
                CageLeave x = Edge.rich();
                CageLeave y = Edge.rich();
                x.weeks(0);
                y.weeks(0);
                Kit.none(x, Kit.tellPark(x, text), 9);
                x.weeks(0);
                Kit.same(Edge.left(x), Edge.left(y));
            }
        });
    }

    private static void fault() {
        Edge.of("Promise 12", "Of the latest park() or weeks() with STATUS 0 or 9, what 0: the FAULT (0 without one), 1: its place (NONE without).", () -> {
            CageLeave x = new CageLeave();
            String[] wrong = {"?", "odds =", "place p;place p;", "odds 17;", "odds 2;odds", Edge.times("place #;", 7)};
            int[] place = {0, 5, 14, 5, 7, 48};
            for (int i = 0; i < 6; i++) {
                Kit.none(x, Kit.tellPark(x, wrong[i]), 9);
                faultIs(x, i + 1, place[i]);
                Kit.none(x, x.park(1), 1);
                Kit.none(x, x.weeks(1), 1);
                Kit.none(x, x.weeks(-1), 1);
                faultIs(x, i + 1, place[i]);
            }
            Kit.is(x, x.park(0), 0);
            faultIs(x, 0, -1);
            Kit.none(x, Kit.tellWeeks(x, "any;loop 1;loop 1;loop 1;when"), 9);
            faultIs(x, 7, 25);
            Kit.is(x, x.weeks(0), 0);
            faultIs(x, 0, -1);
            Kit.none(x, Kit.tellWeeks(x, "end;"), 9);
            faultIs(x, 2, 0);
            Kit.is(x, Kit.tellPark(x, "place p;"), 0);
            faultIs(x, 0, -1);
        });
        Edge.of("Promise 12", "NONE for others, and ahead of any.", () -> {
            CageLeave x = new CageLeave();
            faultIs(x, -1, -1);
            Kit.none(x, x.park(1), 1);
            faultIs(x, -1, -1);
            Kit.none(x, Kit.tellPark(x, "odds 17;"), 9);
            for (int what : new int[] {-1, 2, Integer.MIN_VALUE, Integer.MAX_VALUE}) { Kit.due(x.fault(what), -1); }
            faultIs(x, 4, 5);
        });
    }

    private static void faultIs(CageLeave x, int kind, int place) {
        Kit.due(x.fault(0), kind);
        Kit.due(x.fault(1), place);
    }
}
