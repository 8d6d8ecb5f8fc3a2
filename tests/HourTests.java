/** Promises 13 to 28. */
public final class HourTests {
    /** Two places, a train at once, one that arrives AT 64 and one that arrives behind it. */
    private static final String LINE = "place z;place s;train a from z to s at 0 takes 2;train b from s to z at 60 takes 4;"
        + "train c from s to z at 61 takes 4;beast x out;beast y out;beast w out;ticket x a b;ticket y a c;ticket w a;";

    public static void main(String[] args) {
        told();
        trainAndBeast();
        where();
        hour();
        boarding();
        eating();
        monday();
        weekNineNineNine();
        ticket();
        let();
        halt();
        numbers();
        shift();
        hunt();
        mourn();
        Kit.end("HourTests");
    }

    private static void toldIs(CageLeave x, int... want) {
        for (int what = 0; what < want.length; what++) { Kit.is(x, x.told(what), want[what]); }
    }

    private static void told() {
        Kit.promise("promise 13");
        CageLeave x = Kit.park(Kit.ZOO);
        toldIs(x, 3, 5, 3, 4, 0, 0, 3, 0, 0, 0, 0);
        Kit.none(x, x.told(-1), 1);
        Kit.none(x, x.told(11), 1);
        x.halt(4, true);
        x.halt(1, true);
        x.hour(3);
        toldIs(x, 3, 5, 3, 4, 0, 3, 3, 0, 1, 18, 0);
        x.halt(1, false);
        x.let(2, true);
        x.hour(10);
        toldIs(x, 3, 5, 3, 4, 0, 13, 7, 2, 0, 16, 0);
        x.hour(51);
        x.monday();
        toldIs(x, 3, 5, 3, 4, 1, 0, 7, 2, 0, 16, 0);
        x = Kit.park(LINE);
        for (int i = 0; i < 3; i++) {
            x.hour(64);
            x.monday();
        }
        toldIs(x, 2, 3, 3, 2, 3, 0, 7, 0, 0, 0, 6);
    }

    private static void trainAndBeast() {
        Kit.promise("promises 14, 15");
        CageLeave x = Kit.park(Kit.ZOO);
        Kit.none(x, x.train(5, 0), 1);
        Kit.none(x, x.train(-1, 0), 1);
        Kit.none(x, x.train(0, 7), 1);
        Kit.none(x, x.train(0, -1), 1);
        Kit.none(x, x.beast(3, 0), 1);
        Kit.none(x, x.beast(-1, 0), 1);
        Kit.none(x, x.beast(0, 7), 1);
        Kit.none(x, x.beast(0, -1), 1);
        x.hour(5);
        x.halt(1, true);
        int[] train = {0, 2, 4, 2, 1, 1, 2};
        for (int what = 0; what < 7; what++) { Kit.is(x, x.train(1, what), train[what]); }
        Kit.is(x, x.train(0, 6), 1);
        x.hour(59);
        Kit.is(x, x.train(1, 6), 0);
        Kit.is(x, x.train(2, 6), 0);
        int[] beast = {2, 12, 1, 1, 0, 6, 0};
        for (int what = 0; what < 7; what++) { Kit.is(x, x.beast(1, what), beast[what]); }
        Kit.is(x, x.beast(0, 6), 2);
        Kit.is(x, x.beast(0, 3), 0);
        x = Kit.park(LINE);
        x.hour(64);
        x.monday();
        Kit.is(x, x.beast(0, 4), 0);
        Kit.is(x, x.beast(1, 4), 1);
        Kit.is(x, x.beast(2, 4), 1);
    }

    private static void where() {
        Kit.promise("promises 16 to 18");
        CageLeave x = Kit.park(Kit.ZOO);
        Kit.none(x, x.at(3), 1);
        Kit.none(x, x.at(-1), 1);
        Kit.none(x, x.there(3), 1);
        Kit.none(x, x.there(-1), 1);
        Kit.none(x, x.together(0, 3), 1);
        Kit.none(x, x.together(-1, 0), 1);
        Kit.none(x, x.together(1, 1), 1);
        Kit.is(x, x.together(0, 1), 0);
        x.hour(3);
        Kit.is(x, x.at(0), 10);
        Kit.is(x, x.there(0), 6);
        x.hour(4);
        Kit.is(x, x.at(0), 1);
        Kit.is(x, x.at(1), 2);
        Kit.is(x, x.there(1), 1);
        Kit.is(x, x.there(2), 2);
        x.hour(6);
        Kit.none(x, x.at(1), 6);
        Kit.is(x, x.there(1), 1);
        Kit.is(x, x.together(0, 1), 0);
        x = Kit.park(LINE);
        Kit.is(x, x.together(0, 1), 0);
        x.hour(1);
        Kit.is(x, x.together(0, 1), 1);
        x.hour(2);
        Kit.is(x, x.together(2, 1), 1);
        x.hour(58);
        Kit.is(x, x.at(0), 11);
        Kit.is(x, x.at(1), 1);
        Kit.is(x, x.together(0, 1), 0);
        x.hour(3);
        Kit.is(x, x.at(0), 11);
        Kit.is(x, x.at(1), 12);
        Kit.is(x, x.together(0, 1), 0);
        Kit.is(x, x.there(0), 0);
    }

    private static void hour() {
        Kit.promise("promise 19");
        CageLeave x = Kit.park(Kit.ZOO);
        Kit.none(x, x.hour(0), 1);
        Kit.none(x, x.hour(-1), 1);
        Kit.none(x, x.hour(65), 1);
        Kit.is(x, x.hour(12), 0);
        Kit.none(x, x.hour(53), 4);
        Kit.none(x, x.hour(65), 1);
        Kit.is(x, x.told(5), 12);
        Kit.is(x, x.hour(1), 2);
        Kit.is(x, x.hour(51), 0);
        Kit.is(x, x.told(5), 64);
        Kit.none(x, x.hour(1), 4);
    }

    private static void boarding() {
        Kit.promise("Terms 2: boarding");
        // Seats go by numbers of beasts, trains by numbers of trains; nobody rides two at once.
        CageLeave x = Kit.park("place z;place s;place r;train a from z to s at 3 takes 1 seats 2;train b from z to r at 3 takes 1;"
            + "train c from s to r at 4 takes 1;train d from r to s at 4 takes 1;beast m;beast n out;beast o out;beast p out;"
            + "ticket m a;ticket n a b c;ticket o a b;ticket p a b d;");
        x.hour(4);
        Kit.is(x, x.train(0, 6), 6);
        Kit.is(x, x.train(1, 6), 8);
        Kit.is(x, x.there(0), 1);
        x.hour(1);
        Kit.is(x, x.train(2, 6), 2);
        Kit.is(x, x.train(3, 6), 8);
        Kit.is(x, x.there(1), 4);
        x.hour(1);
        Kit.is(x, x.there(2), 2);
        Kit.is(x, x.there(1), 12);
        // Only in PLACE 0 one must be let OUT.
        x = Kit.park(LINE);
        x.hour(3);
        x.let(0, false);
        x.let(2, false);
        x.hour(58);
        Kit.is(x, x.at(0), 11);
        Kit.is(x, x.at(2), 1);
        // A TRAIN that left arrives, HALTED or not.
        x = Kit.park(LINE);
        x.hour(1);
        x.halt(0, true);
        x.halt(1, true);
        x.hour(2);
        Kit.is(x, x.there(1), 7);
        x.hour(60);
        Kit.is(x, x.at(0), 1);
        Kit.is(x, x.at(1), 12);
        // Without a TICKET, or HALTED ahead of it, nobody gets on.
        x = Kit.park(LINE);
        x.ticket(1, 0, false);
        x.hour(1);
        Kit.is(x, x.train(0, 6), 5);
        x = Kit.park(LINE);
        x.halt(0, true);
        x.hour(64);
        Kit.is(x, x.there(0), 7);
    }

    private static void eating() {
        Kit.promise("Terms 2: eating");
        String park = "place z;place s;train a from z to s at 0 takes 5;beast m out;beast n out;beast o out;beast p out;"
            + "ticket m a;ticket n a;ticket o a;ticket p a;";
        // n eats m ahead of being eaten; o is left, since its hunter m is eaten.
        CageLeave x = Kit.park(park + "hunts n m;hunts m o;hunts o n;");
        Kit.is(x, x.hour(1), 3);
        Kit.is(x, x.train(0, 6), 12);
        // By the first that hunts it.
        x = Kit.park(park + "hunts p m;hunts o m;");
        Kit.is(x, x.eater(0), 2);
        x.hour(1);
        Kit.is(x, x.told(7), 1);
        // On the train in the very hour; in PLACE 0 never; on arriving with one that is there.
        x = Kit.park(park + "hunts p m;");
        x.let(0, false);
        Kit.is(x, x.hour(64), 0);
        x = Kit.park(park + "train b from z to s at 3 takes 2;ticket p b;hunts p m;");
        Kit.is(x, x.hour(5), 0);
        Kit.is(x, x.hour(1), 1);
        // Apart on two trains.
        x = Kit.park(park + "train b from z to s at 0 takes 7;ticket p b;hunts p m;");
        Kit.is(x, x.hour(7), 0);
        Kit.is(x, x.hour(1), 1);
        // Who begins to hunt where they are together.
        x = Kit.park(park);
        Kit.is(x, x.hour(10), 0);
        x.hunt(3, 1, true);
        Kit.is(x, x.hour(1), 2);
    }

    private static void monday() {
        Kit.promise("promise 20");
        CageLeave x = Kit.park(LINE);
        Kit.none(x, x.monday(), 7);
        x.hour(63);
        Kit.none(x, x.monday(), 7);
        x.halt(2, true);
        x.hour(1);
        Kit.is(x, x.lateBy(), 6);
        Kit.is(x, x.monday(), 6);
        Kit.is(x, x.there(0), 7);
        Kit.is(x, x.told(4), 1);
        Kit.is(x, x.told(5), 0);
        Kit.is(x, x.told(6), 7);
        Kit.is(x, x.told(9), 4);
        Kit.is(x, x.beast(1, 5), 5);
        Kit.none(x, x.monday(), 7);
        x.hour(64);
        Kit.is(x, x.monday(), 6);
        Kit.is(x, x.beast(1, 4), 2);
        x = Kit.park(LINE + "hunts x w;");
        Kit.is(x, x.hour(64), 4);
        Kit.is(x, x.monday(), 2);
        Kit.is(x, x.there(0), 3);
        Kit.is(x, x.told(7), 4);
        x = Kit.park("");
        x.hour(64);
        Kit.is(x, x.monday(), 0);
        x = Kit.park("place z;place s;train a from z to s at 63 takes 5;train b from z to s at 62 takes 24;beast m out;"
            + "beast n out;ticket m a;ticket n b;");
        x.hour(64);
        Kit.is(x, x.told(8), 3);
        Kit.is(x, x.monday(), 3);
        Kit.is(x, x.told(8), 0);
        Kit.is(x, x.train(0, 6), 0);
        Kit.is(x, x.at(0), 0);
        Kit.is(x, x.at(1), 0);
        x.hour(4);
        Kit.is(x, x.there(0), 3);
    }

    private static void weekNineNineNine() {
        Kit.promise("promise 20: WEEK 999");
        CageLeave x = Kit.weeks(LINE, "loop 99;hour 64;monday;end;");
        for (int i = 0; i < 6; i++) { x.live(0); }
        Kit.is(x, x.told(4), 594);
        for (int i = 0; i < 4; i++) { x.live(0); }
        Kit.is(x, x.told(4), 990);
        for (int i = 0; i < 9; i++) {
            Kit.is(x, x.hour(64), 0);
            Kit.is(x, x.monday(), 6);
        }
        Kit.is(x, x.told(4), 999);
        Kit.is(x, x.told(10), 1998);
        Kit.none(x, x.monday(), 4);
        x.hour(64);
        Kit.none(x, x.monday(), 4);
        Kit.is(x, x.live(0), 199);
        Kit.is(x, x.lived(0), 198);
        Kit.is(x, x.lived(3), 0);
    }

    private static CageLeave withEaten() {
        CageLeave x = Kit.park(Kit.ZOO);
        x.hour(13);
        return x;
    }

    private static void ticket() {
        Kit.promise("promise 21");
        CageLeave x = withEaten();
        Kit.not(x, x.ticket(3, 0, true), 1);
        Kit.not(x, x.ticket(-1, 0, true), 1);
        Kit.not(x, x.ticket(0, 5, true), 1);
        Kit.not(x, x.ticket(0, -1, true), 1);
        Kit.not(x, x.ticket(0, 0, true), 7);
        Kit.not(x, x.ticket(0, 1, false), 7);
        Kit.not(x, x.ticket(1, 0, true), 7);
        Kit.not(x, x.ticket(1, 1, false), 7);
        Kit.yes(x, x.ticket(0, 1, true));
        Kit.is(x, x.beast(0, 5), 11);
        Kit.yes(x, x.ticket(0, 0, false));
        Kit.is(x, x.beast(0, 5), 10);
        Kit.is(x, x.beast(1, 5), 6);
    }

    private static void let() {
        Kit.promise("promise 22");
        CageLeave x = withEaten();
        Kit.not(x, x.let(3, true), 1);
        Kit.not(x, x.let(-1, true), 1);
        Kit.not(x, x.let(0, true), 7);
        Kit.not(x, x.let(2, false), 7);
        Kit.not(x, x.let(1, false), 7);
        Kit.not(x, x.let(1, true), 7);
        Kit.yes(x, x.let(0, false));
        Kit.yes(x, x.let(2, true));
        Kit.is(x, x.told(6), 6);
        Kit.is(x, x.beast(2, 2), 1);
    }

    private static void halt() {
        Kit.promise("promise 23");
        CageLeave x = Kit.park(Kit.ZOO);
        Kit.not(x, x.halt(5, true), 1);
        Kit.not(x, x.halt(-1, true), 1);
        Kit.not(x, x.halt(0, false), 7);
        Kit.yes(x, x.halt(0, true));
        Kit.not(x, x.halt(0, true), 7);
        Kit.yes(x, x.halt(3, true));
        Kit.is(x, x.told(9), 9);
        Kit.yes(x, x.halt(0, false));
        Kit.is(x, x.told(9), 8);
    }

    private static void numbers() {
        Kit.promise("promises 24, 28");
        CageLeave x = Kit.park(Kit.ZOO);
        Kit.not(x, x.trust(3, 1), 1);
        Kit.not(x, x.trust(-1, 1), 1);
        Kit.not(x, x.trust(0, -1), 1);
        Kit.not(x, x.trust(0, 17), 1);
        Kit.is(x, x.beast(0, 1), 8);
        Kit.yes(x, x.trust(0, 16));
        Kit.is(x, x.beast(0, 1), 16);
        Kit.yes(x, x.trust(0, 0));
        Kit.yes(x, x.trust(0, 0));
        Kit.is(x, x.beast(0, 1), 0);
        Kit.not(x, x.rule(-1), 1);
        Kit.not(x, x.rule(17), 1);
        Kit.is(x, x.told(3), 4);
        Kit.yes(x, x.rule(16));
        Kit.is(x, x.told(3), 16);
        Kit.yes(x, x.rule(0));
        Kit.is(x, x.told(3), 0);
        x = withEaten();
        Kit.yes(x, x.trust(1, 3));
    }

    private static void shift() {
        Kit.promise("promise 25");
        CageLeave x = Kit.park(Kit.ZOO);
        Kit.not(x, x.shift(5, 1), 1);
        Kit.not(x, x.shift(-1, 1), 1);
        Kit.not(x, x.shift(0, -1), 1);
        Kit.not(x, x.shift(0, 64), 1);
        Kit.yes(x, x.shift(0, 63));
        Kit.is(x, x.train(0, 2), 63);
        Kit.yes(x, x.shift(0, 0));
        Kit.yes(x, x.shift(0, 0));
        x.hour(3);
        Kit.not(x, x.shift(0, 9), 7);
        Kit.not(x, x.shift(0, 64), 1);
        x.hour(1);
        Kit.is(x, x.at(0), 1);
        Kit.yes(x, x.shift(0, 9));
        // It goes a second time in the week; l has a ticket, but is not there.
        x.ticket(2, 0, true);
        x.let(2, true);
        x.ticket(2, 1, false);
        x.hour(6);
        Kit.is(x, x.train(0, 6), 4);
        x.hour(3);
        Kit.is(x, x.at(2), 1);
    }

    private static void hunt() {
        Kit.promise("promise 26");
        CageLeave x = Kit.park(Kit.ZOO);
        Kit.not(x, x.hunt(3, 0, true), 1);
        Kit.not(x, x.hunt(0, 3, true), 1);
        Kit.not(x, x.hunt(-1, 0, true), 1);
        Kit.not(x, x.hunt(2, 2, true), 1);
        Kit.not(x, x.hunt(0, 1, true), 7);
        Kit.not(x, x.hunt(1, 0, false), 7);
        Kit.yes(x, x.hunt(1, 0, true));
        Kit.yes(x, x.hunt(0, 1, false));
        Kit.is(x, x.beast(0, 6), 0);
        Kit.is(x, x.beast(1, 6), 1);
        Kit.is(x, x.hour(64), 1);
    }

    private static void mourn() {
        Kit.promise("promise 27");
        CageLeave x = withEaten();
        Kit.not(x, x.mourn(3), 1);
        Kit.not(x, x.mourn(-1), 1);
        Kit.not(x, x.mourn(0), 7);
        Kit.yes(x, x.mourn(1));
        Kit.is(x, x.at(1), 0);
        Kit.is(x, x.there(0), 6);
        Kit.is(x, x.told(7), 0);
        Kit.is(x, x.beast(1, 5), 6);
        Kit.is(x, x.beast(1, 2), 1);
        Kit.not(x, x.mourn(1), 7);
        Kit.none(x, x.eatenAt(1), 6);
        x.hour(51);
        x.monday();
        Kit.is(x, x.eatenAt(1), 12);
    }
}
