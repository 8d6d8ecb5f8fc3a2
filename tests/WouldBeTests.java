/** Promises 29 to 51. */
public final class WouldBeTests {
    public static void main(String[] args) {
        where();
        eaten();
        meet();
        lateBy();
        lettingOut();
        most();
        soonest();
        soonestBy();
        latest();
        stay();
        reach();
        cut();
        snow();
        back();
        wildest();
        rooms();
        roomSize();
        parrot();
        parrotAsItIsNow();
        parrotWrong();
        Kit.end("WouldBeTests");
    }

    private static CageLeave zooAt(int hour) {
        CageLeave x = Kit.park(Kit.ZOO);
        if (hour > 0) { x.hour(hour); }
        return x;
    }

    private static void where() {
        Kit.promise("promise 29");
        CageLeave x = zooAt(0);
        int[][] at = {{0, 0}, {2, 0}, {3, 10}, {5, 10}, {6, 1}, {20, 1}, {21, 13}, {30, 13}, {31, 0}, {64, 0}};
        for (int[] a : at) { Kit.is(x, x.where(0, a[0]), a[1]); }
        Kit.none(x, x.where(3, 0), 1);
        Kit.none(x, x.where(-1, 0), 1);
        Kit.none(x, x.where(0, 65), 1);
        Kit.none(x, x.where(0, -1), 1);
        Kit.is(x, x.where(1, 12), 12);
        Kit.none(x, x.where(1, 13), 6);
        Kit.none(x, x.where(1, 64), 6);
        Kit.is(x, x.told(5), 0);
        x = zooAt(13);
        Kit.none(x, x.where(0, 12), 1);
        Kit.none(x, x.where(1, 12), 1);
        Kit.none(x, x.where(1, 13), 6);
        Kit.is(x, x.where(0, 13), 1);
        x = zooAt(64);
        Kit.is(x, x.where(0, 64), 0);
        Kit.none(x, x.where(0, 63), 1);
        x = zooAt(0);
        x.let(1, false);
        x.let(2, true);
        Kit.is(x, x.where(2, 64), 14);
        x.hour(64);
        Kit.is(x, x.where(2, 64), 14);
        Kit.is(x, x.lateBy(), 0);
    }

    private static void eaten() {
        Kit.promise("promises 30, 31");
        CageLeave x = zooAt(0);
        Kit.none(x, x.eatenAt(3), 1);
        Kit.none(x, x.eatenAt(-1), 1);
        Kit.none(x, x.eater(3), 1);
        Kit.none(x, x.eater(-1), 1);
        Kit.is(x, x.eatenAt(1), 12);
        Kit.is(x, x.eater(1), 0);
        Kit.none(x, x.eatenAt(0), 6);
        Kit.none(x, x.eater(0), 6);
        Kit.is(x, x.told(7), 0);
        x.hour(12);
        Kit.is(x, x.eatenAt(1), 12);
        x.hour(1);
        Kit.none(x, x.eatenAt(1), 6);
        Kit.none(x, x.eater(1), 6);
        x = Kit.park("place z;place s;train a from z to s at 63 takes 5;beast b out;beast c out;beast d out;ticket b a;"
            + "ticket c a;ticket d a;hunts d b;hunts c b;hunts b d;");
        Kit.is(x, x.eatenAt(0), 63);
        Kit.is(x, x.eater(0), 1);
        Kit.none(x, x.eatenAt(2), 6);
        x.shift(0, 0);
        Kit.is(x, x.eatenAt(0), 0);
    }

    private static void meet() {
        Kit.promise("promise 32");
        CageLeave x = zooAt(0);
        Kit.none(x, x.meet(0, 3), 1);
        Kit.none(x, x.meet(-1, 0), 1);
        Kit.none(x, x.meet(2, 2), 1);
        Kit.none(x, x.meet(0, 1), 6);
        x.hunt(0, 1, false);
        Kit.is(x, x.meet(0, 1), 13);
        Kit.is(x, x.meet(1, 0), 13);
        Kit.none(x, x.meet(0, 2), 6);
        x.hour(15);
        Kit.is(x, x.meet(0, 1), 15);
        x.hour(6);
        Kit.none(x, x.meet(0, 1), 6);
        x = Kit.park("place z;place s;train a from z to s at 63 takes 1;beast b out;beast c out;ticket b a;ticket c a;");
        Kit.is(x, x.meet(0, 1), 64);
        x.hour(64);
        Kit.is(x, x.meet(0, 1), 64);
        x = Kit.park("place z;place s;train a from z to s at 3 takes 2;beast b out;beast c out;ticket b a;ticket c a;");
        Kit.is(x, x.meet(0, 1), 4);
        x = zooAt(13);
        Kit.none(x, x.meet(0, 1), 6);
    }

    private static void lateBy() {
        Kit.promise("promise 33");
        CageLeave x = zooAt(0);
        Kit.is(x, x.lateBy(), 0);
        x.halt(3, true);
        Kit.is(x, x.lateBy(), 1);
        x.hunt(0, 1, false);
        Kit.is(x, x.lateBy(), 3);
        Kit.is(x, x.told(10), 0);
        Kit.is(x, x.told(4), 0);
        x.hour(64);
        Kit.is(x, x.lateBy(), 3);
        Kit.is(x, x.monday(), 3);
        Kit.is(Kit.park(""), 0, 0);
        x = Kit.park("");
        Kit.is(x, x.lateBy(), 0);
    }

    private static void lettingOut() {
        Kit.promise("promises 34, 35");
        CageLeave x = zooAt(0);
        int[] eaten = {0, 0, 0, 2, 0, 0, 0, 2};
        for (int set = 0; set < 8; set++) {
            Kit.is(x, x.eatenBy(set), eaten[set]);
            Kit.is(x, x.peace(set), eaten[set] == 0 ? 1 : 0);
        }
        for (int set : new int[] {-1, 8, Integer.MAX_VALUE, Integer.MIN_VALUE}) {
            Kit.none(x, x.peace(set), 1);
            Kit.none(x, x.eatenBy(set), 1);
        }
        // As if it was HOUR 0 and all in PLACE 0.
        x.hour(11);
        Kit.is(x, x.eatenBy(1), 0);
        Kit.is(x, x.eatenBy(3), 2);
        Kit.is(x, x.at(1), 12);
        x.halt(2, true);
        Kit.is(x, x.eatenBy(3), 0);
        x.halt(2, false);
        x.hour(2);
        Kit.none(x, x.peace(2), 7);
        Kit.none(x, x.eatenBy(3), 7);
        Kit.none(x, x.peace(10), 1);
        Kit.is(x, x.peace(5), 1);
        Kit.is(x, x.eatenBy(5), 0);
    }

    private static void most() {
        Kit.promise("promise 36");
        CageLeave x = zooAt(0);
        Kit.is(x, x.most(), 5);
        x.hunt(0, 1, false);
        Kit.is(x, x.most(), 7);
        x.hunt(0, 1, true);
        x.hour(13);
        Kit.is(x, x.most(), 5);
        x = Kit.park("");
        Kit.is(x, x.most(), 0);
        // m hunts n, o; p hunts m: the greatest is n o p, not m alone.
        String ark = "place z;place s;train a from z to s at 0 takes 5;beast m;beast n;beast o;beast p;"
            + "ticket m a;ticket n a;ticket o a;ticket p a;";
        x = Kit.park(ark + "hunts m n;hunts m o;hunts p m;");
        Kit.is(x, x.most(), 14);
        x = Kit.park(ark + "hunts m n;hunts o p;");
        Kit.is(x, x.most(), 5);
    }

    private static void soonest() {
        Kit.promise("promise 37");
        CageLeave x = Kit.park(Kit.NET);
        Kit.none(x, x.soonest(4, 0, 0), 1);
        Kit.none(x, x.soonest(0, 0, 4), 1);
        Kit.none(x, x.soonest(-1, 0, 0), 1);
        Kit.none(x, x.soonest(0, 0, -1), 1);
        Kit.none(x, x.soonest(0, -1, 1), 1);
        Kit.none(x, x.soonest(0, 64, 1), 1);
        Kit.is(x, x.soonest(0, 0, 1), 10);
        Kit.is(x, x.soonest(0, 5, 1), 10);
        Kit.none(x, x.soonest(0, 6, 1), 6);
        Kit.is(x, x.soonest(0, 0, 3), 34);
        Kit.is(x, x.soonest(2, 4, 1), 10);
        Kit.none(x, x.soonest(2, 5, 1), 6);
        Kit.is(x, x.soonest(2, 5, 0), 64);
        Kit.is(x, x.soonest(1, 0, 0), 64);
        Kit.none(x, x.soonest(3, 0, 0), 6);
        Kit.is(x, x.soonest(3, 63, 3), 63);
        x.halt(0, true);
        Kit.is(x, x.soonest(0, 0, 1), 10);
        x.halt(3, true);
        Kit.none(x, x.soonest(0, 0, 1), 6);
        x.halt(3, false);
        x.shift(3, 4);
        Kit.is(x, x.soonest(0, 0, 1), 9);
        // One after the other: what comes first must have arrived; a train may go in that very HOUR.
        x = Kit.park("place z;place s;place r;train a from s to r at 5 takes 1;train b from z to s at 3 takes 2;");
        Kit.is(x, x.soonest(0, 0, 2), 6);
        x.shift(0, 4);
        Kit.none(x, x.soonest(0, 0, 2), 6);
        // The last one in the text goes first.
        x = Kit.park("place z;place s;place r;place o;place p;train a from o to p at 9 takes 1;train b from r to o at 6 takes 3;"
            + "train c from s to r at 4 takes 2;train d from z to s at 0 takes 4;");
        Kit.is(x, x.soonest(0, 0, 4), 10);
        Kit.is(x, x.soonestBy(0, 0, 4), 3);
        Kit.is(x, x.latest(0, 4, 10), 0);
        Kit.is(x, x.reach(), 31);
        Kit.is(x, x.cut(4), 1);
        Kit.is(x, x.cutSet(4), 1);
    }

    private static void soonestBy() {
        Kit.promise("promise 38");
        CageLeave x = Kit.park(Kit.NET);
        Kit.none(x, x.soonestBy(4, 0, 0), 1);
        Kit.none(x, x.soonestBy(0, 0, -1), 1);
        Kit.none(x, x.soonestBy(0, 64, 0), 1);
        Kit.none(x, x.soonestBy(0, -1, 1), 1);
        Kit.is(x, x.soonestBy(0, 5, 1), 0);
        Kit.none(x, x.soonestBy(1, 0, 1), 7);
        Kit.none(x, x.soonestBy(0, 6, 1), 6);
        Kit.none(x, x.soonestBy(3, 0, 1), 6);
        Kit.is(x, x.soonestBy(0, 0, 1), 0);
        Kit.is(x, x.soonestBy(2, 0, 0), 2);
        Kit.is(x, x.soonestBy(2, 5, 0), 7);
        x.halt(0, true);
        // By b and back by c one is there as soon as by d alone.
        Kit.is(x, x.soonestBy(0, 0, 1), 1);
        Kit.is(x, x.soonestBy(0, 3, 1), 3);
        x.halt(2, true);
        Kit.is(x, x.soonestBy(0, 0, 1), 3);
    }

    private static void latest() {
        Kit.promise("promise 39");
        CageLeave x = Kit.park(Kit.NET);
        Kit.none(x, x.latest(4, 0, 1), 1);
        Kit.none(x, x.latest(0, 4, 1), 1);
        Kit.none(x, x.latest(-1, 0, 1), 1);
        Kit.none(x, x.latest(0, 1, -1), 1);
        Kit.none(x, x.latest(0, 1, 65), 1);
        Kit.is(x, x.latest(0, 1, 64), 5);
        Kit.is(x, x.latest(0, 1, 10), 5);
        Kit.none(x, x.latest(0, 1, 9), 6);
        Kit.is(x, x.latest(2, 1, 64), 4);
        Kit.is(x, x.latest(2, 0, 64), 63);
        Kit.is(x, x.latest(2, 0, 63), 4);
        Kit.is(x, x.latest(1, 0, 64), 40);
        Kit.none(x, x.latest(3, 0, 64), 6);
        Kit.is(x, x.latest(3, 3, 0), 0);
        Kit.is(x, x.latest(3, 3, 64), 64);
        x.shift(1, 0);
        Kit.is(x, x.latest(0, 2, 2), 0);
        x.halt(1, true);
        Kit.none(x, x.latest(0, 2, 64), 6);
        x = Kit.park("place z;place s;train a from z to s at 9 takes 2;train b from z to s at 5 takes 1;");
        Kit.is(x, x.latest(0, 1, 64), 9);
        Kit.is(x, x.latest(0, 1, 10), 5);
    }

    private static void stay() {
        Kit.promise("promise 40");
        CageLeave x = Kit.park(Kit.NET);
        Kit.none(x, x.stay(0), 1);
        Kit.none(x, x.stay(4), 1);
        Kit.none(x, x.stay(-1), 1);
        Kit.is(x, x.stay(1), 30);
        Kit.is(x, x.stay(2), 59);
        Kit.none(x, x.stay(3), 6);
        x.halt(7, true);
        Kit.is(x, x.stay(2), 0);
        x.shift(2, 3);
        Kit.none(x, x.stay(2), 6);
        x.shift(5, 41);
        Kit.none(x, x.stay(1), 6);
        x = Kit.park("place z;place s;train a from z to s at 0 takes 2;train b from s to z at 60 takes 4;");
        Kit.is(x, x.stay(1), 58);
        Kit.is(x, x.reach(), 3);
        Kit.is(x, x.cut(1), 1);
        Kit.fraction(x, x.snow(1), 7, 8);
    }

    private static void reach() {
        Kit.promise("promise 41");
        CageLeave x = new CageLeave();
        Kit.none(x, x.reach(), 6);
        x = Kit.park("place z;");
        Kit.is(x, x.reach(), 1);
        x = Kit.park(Kit.NET);
        Kit.is(x, x.reach(), 15);
        x.hour(30);
        Kit.is(x, x.reach(), 15);
        x.halt(4, true);
        Kit.is(x, x.reach(), 7);
        x.halt(0, true);
        x.halt(3, true);
        Kit.is(x, x.reach(), 5);
        // Nobody is there by HOUR 64.
        x = Kit.park("place z;place s;train a from z to s at 41 takes 24;");
        Kit.is(x, x.reach(), 1);
        Kit.is(x, x.cut(1), 0);
        Kit.fraction(x, x.snow(1), 0, 1);
        x.shift(0, 40);
        Kit.is(x, x.reach(), 3);
        Kit.is(x, x.cut(1), 1);
        Kit.is(x, x.cutSet(1), 1);
        Kit.fraction(x, x.snow(1), 7, 8);
    }

    private static void cut() {
        Kit.promise("promises 42, 43");
        CageLeave x = Kit.park(Kit.NET);
        for (int place : new int[] {0, 4, -1}) {
            Kit.none(x, x.cut(place), 1);
            Kit.none(x, x.cutSet(place), 1);
        }
        Kit.is(x, x.cut(1), 2);
        Kit.is(x, x.cutSet(1), 9);
        Kit.is(x, x.cut(3), 1);
        Kit.is(x, x.cutSet(3), 16);
        Kit.is(x, x.cut(2), 1);
        Kit.is(x, x.cutSet(2), 2);
        x.halt(3, true);
        Kit.is(x, x.cut(1), 1);
        Kit.is(x, x.cutSet(1), 1);
        Kit.is(x, x.cutSet(3), 1);
        x.halt(0, true);
        Kit.is(x, x.cut(1), 0);
        Kit.is(x, x.cutSet(1), 0);
        Kit.is(x, x.told(9), 9);
    }

    private static void snow() {
        Kit.promise("promise 44");
        CageLeave x = Kit.park(Kit.NET);
        Kit.not(x, x.snow(4), 1);
        Kit.not(x, x.snow(-1), 1);
        Kit.fraction(x, x.snow(0), 1, 1);
        Kit.fraction(x, x.snow(1), 3, 4);
        Kit.fraction(x, x.snow(3), 3, 8);
        Kit.fraction(x, x.snow(2), 1, 2);
        x.rule(3);
        Kit.fraction(x, x.snow(1), 247, 256);
        x.halt(0, true);
        Kit.fraction(x, x.snow(1), 13, 16);
        x.halt(3, true);
        Kit.fraction(x, x.snow(1), 0, 1);
        x.rule(16);
        Kit.fraction(x, x.snow(2), 0, 1);
        Kit.fraction(x, x.snow(0), 1, 1);
        x.rule(0);
        Kit.fraction(x, x.snow(2), 1, 1);
        // All that can be: eight trains by one sixteenth, 1 less 1 by 2 to the 32nd.
        StringBuilder s = new StringBuilder("odds 1;place z;place s;");
        for (int i = 0; i < 8; i++) { s.append("train ").append((char) ('a' + i)).append(" from z to s at 5 takes 3;"); }
        x = Kit.park(s.toString());
        Kit.fraction(x, x.snow(1), (1L << 32) - 1, 1L << 32);
        Kit.not(x, x.snow(2), 1);
        Kit.due(x.top(), (1L << 32) - 1);
    }

    private static void back() {
        Kit.promise("promise 45");
        CageLeave x = zooAt(0);
        Kit.not(x, x.back(8, 1), 1);
        Kit.not(x, x.back(-1, 1), 1);
        Kit.not(x, x.back(1, -1), 1);
        Kit.not(x, x.back(1, 9), 1);
        Kit.due(x.bottom(), 1);
        Kit.fraction(x, x.back(0, 0), 1, 1);
        Kit.fraction(x, x.back(0, 8), 0, 1);
        Kit.fraction(x, x.back(1, 1), 1, 2);
        Kit.fraction(x, x.back(2, 1), 3, 4);
        Kit.fraction(x, x.back(4, 1), 1, 1);
        Kit.fraction(x, x.back(3, 0), 1, 1);
        Kit.fraction(x, x.back(3, 1), 7, 8);
        Kit.fraction(x, x.back(3, 2), 3, 8);
        Kit.fraction(x, x.back(3, 3), 0, 1);
        Kit.fraction(x, x.back(7, 2), 7, 8);
        x.trust(2, 0);
        Kit.fraction(x, x.back(7, 3), 0, 1);
        x.trust(0, 1);
        Kit.fraction(x, x.back(1, 1), 1, 16);
        StringBuilder s = new StringBuilder("place z;");
        for (int i = 0; i < 8; i++) { s.append("beast ").append((char) ('a' + i)).append(" trust 1;"); }
        x = Kit.park(s.toString());
        Kit.fraction(x, x.back(255, 8), 1, 1L << 32);
    }

    private static void wildest() {
        Kit.promise("promise 46");
        CageLeave x = zooAt(0);
        Kit.none(x, x.wildest(8), 1);
        Kit.none(x, x.wildest(-1), 1);
        Kit.none(x, x.wildest(0), 6);
        Kit.is(x, x.wildest(7), 0);
        Kit.is(x, x.wildest(6), 1);
        Kit.is(x, x.wildest(4), 2);
        x.trust(1, 8);
        Kit.is(x, x.wildest(7), 0);
        x.trust(2, 7);
        Kit.is(x, x.wildest(7), 2);
    }

    private static void rooms() {
        Kit.promise("promise 47");
        CageLeave x = zooAt(0);
        Kit.none(x, x.rooms(8, 1), 1);
        Kit.none(x, x.rooms(-1, 1), 1);
        Kit.none(x, x.rooms(1, 0), 1);
        Kit.none(x, x.rooms(1, 73), 1);
        Kit.is(x, x.rooms(0, 1), 0);
        Kit.none(x, x.rooms(7, 4), 6);
        Kit.is(x, x.rooms(6, 2), 2);
        Kit.is(x, x.rooms(6, 3), 1);
        Kit.is(x, x.rooms(7, 5), 2);
        Kit.is(x, x.rooms(7, 72), 2);
        x.hunt(0, 1, false);
        Kit.is(x, x.rooms(7, 72), 1);
        Kit.is(x, x.rooms(7, 8), 1);
        Kit.is(x, x.rooms(7, 7), 2);
        x.hunt(2, 0, true);
        Kit.is(x, x.rooms(5, 72), 2);
        x = Kit.park("place z;beast a;beast b;beast c;hunts a c;hunts b c;");
        Kit.is(x, x.rooms(5, 72), 2);
        Kit.is(x, x.rooms(6, 72), 2);
        Kit.is(x, x.rooms(3, 72), 1);
        // First fit would need three: 5 4 2 3 into sevens.
        x = Kit.park("place z;beast a size 3;beast b size 2;beast c size 4;beast d size 5;");
        Kit.is(x, x.rooms(15, 7), 2);
        StringBuilder s = new StringBuilder("place z;");
        for (int i = 0; i < 8; i++) { s.append("beast ").append((char) ('a' + i)).append(" size 9;"); }
        x = Kit.park(s.toString());
        Kit.is(x, x.rooms(255, 9), 8);
        Kit.is(x, x.rooms(255, 72), 1);
        Kit.is(x, x.rooms(255, 71), 2);
        Kit.none(x, x.rooms(128, 8), 6);
    }

    private static void roomSize() {
        Kit.promise("promise 48");
        CageLeave x = zooAt(0);
        Kit.none(x, x.roomSize(8, 1), 1);
        Kit.none(x, x.roomSize(-1, 1), 1);
        Kit.none(x, x.roomSize(1, 0), 1);
        Kit.none(x, x.roomSize(1, 9), 1);
        Kit.is(x, x.roomSize(0, 1), 1);
        Kit.none(x, x.roomSize(3, 1), 6);
        Kit.none(x, x.roomSize(7, 1), 6);
        Kit.is(x, x.roomSize(7, 2), 5);
        Kit.is(x, x.roomSize(5, 1), 6);
        Kit.is(x, x.roomSize(7, 8), 5);
        Kit.is(x, x.roomSize(4, 1), 1);
        StringBuilder s = new StringBuilder("place z;");
        for (int i = 0; i < 8; i++) { s.append("beast ").append((char) ('a' + i)).append(" size 9;"); }
        x = Kit.park(s.toString());
        int[] size = {72, 36, 27, 18, 18, 18, 18, 9};
        for (int many = 1; many <= 8; many++) { Kit.is(x, x.roomSize(255, many), size[many - 1]); }
    }

    private static void tell(CageLeave x, int tray, int... numbers) {
        x.tray(tray, 0, numbers.length);
        for (int i = 0; i < numbers.length; i++) { x.write(tray, i, numbers[i]); }
    }

    private static void parrot() {
        Kit.promise("promises 49 to 51");
        CageLeave x = zooAt(0);
        // l was in s at 10: sets with l. t was in h at 40: sets with t, without g. g in s: never.
        tell(x, 0, 40, 2, 2, 10, 1, 0, 20, 1, 1);
        Kit.is(x, x.sets(0, 0, 0), 8);
        Kit.is(x, x.sure(0, 0, 0), 0);
        Kit.is(x, x.slips(0, 0), 0);
        Kit.is(x, x.sets(0, 1, 0), 2);
        Kit.is(x, x.sure(0, 1, 0), 4);
        Kit.is(x, x.sets(0, 2, 0), 1);
        Kit.is(x, x.sure(0, 2, 0), 5);
        Kit.is(x, x.slips(0, 2), 0);
        Kit.is(x, x.sets(0, 2, 1), 5);
        Kit.is(x, x.sure(0, 2, 1), 0);
        Kit.is(x, x.sets(0, 2, 20), 8);
        Kit.is(x, x.sets(0, 3, 0), 1 - 1);
        Kit.none(x, x.sure(0, 3, 0), 6);
        Kit.is(x, x.slips(0, 3), 1);
        // g alone gets to s at 12: at 12 it is on the train still, at 13 it is there; so with t, too.
        tell(x, 1, 12, 1, 1, 13, 1, 1, 64, 1, 1);
        Kit.is(x, x.slips(1, 1), 1);
        Kit.is(x, x.slips(1, 3), 1);
        Kit.is(x, x.sets(1, 3, 1), 2);
        Kit.is(x, x.sure(1, 3, 1), 2);
        Kit.is(x, x.sets(1, 3, 0), 0);
        Kit.is(x, x.sets(1, 3, 2), 2);
        Kit.is(x, x.sets(1, 3, 3), 8);
        // Told the latest first.
        tell(x, 1, 64, 1, 1, 40, 2, 2, 13, 1, 1, 7, 2, 1, 6, 1, 0, 5, 1, 0);
        Kit.is(x, x.slips(1, 6), 3);
        Kit.is(x, x.sets(1, 6, 3), 2);
        Kit.is(x, x.sure(1, 6, 3), 2);
        Kit.is(x, x.sets(1, 6, 4), 5);
        // At HOUR 0 all are in PLACE 0.
        tell(x, 2, 0, 1, 0);
        Kit.is(x, x.slips(2, 1), 1);
    }

    private static void parrotAsItIsNow() {
        Kit.promise("promises 49 to 51: as it is now");
        CageLeave x = zooAt(13);
        // g is EATEN: of four sets only; it can't have been anywhere.
        tell(x, 0, 40, 2, 2, 10, 1, 0, 8, 12 - 10, 1);
        Kit.is(x, x.sets(0, 0, 0), 4);
        Kit.is(x, x.sets(0, 1, 0), 2);
        Kit.is(x, x.sure(0, 2, 0), 5);
        Kit.is(x, x.slips(0, 3), 1);
        x.halt(0, true);
        Kit.is(x, x.sets(0, 2, 0), 0);
        Kit.is(x, x.slips(0, 2), 1);
        Kit.is(x, x.at(0), 1);
        x = Kit.park("");
        x.tray(3, 3, 0);
        Kit.is(x, x.sets(3, 0, 20), 1);
        Kit.is(x, x.sure(3, 0, 0), 0);
        Kit.is(x, x.slips(3, 0), 0);
    }

    private static void none(CageLeave x, int tray, int n, int slips, int status) {
        Kit.none(x, x.sets(tray, n, slips), status);
        Kit.none(x, x.sure(tray, n, slips), status);
        if (slips >= 0 && slips <= 20) { Kit.none(x, x.slips(tray, n), status); }
    }

    private static void parrotWrong() {
        Kit.promise("promises 49 to 51: wrong");
        CageLeave x = zooAt(0);
        none(x, -1, 0, 0, 1);
        none(x, 4, 0, 0, 1);
        none(x, 0, -1, 0, 1);
        none(x, 0, 21, 0, 1);
        none(x, 0, 0, -1, 1);
        none(x, 0, 0, 21, 1);
        none(x, 0, 0, 0, 2);
        tell(x, 0, 5, 0, 0, 5, 1);
        none(x, 0, 2, 0, 3);
        none(x, 0, 1, 0, 5);
        int[][] bad = {{-1, 1, 0}, {65, 1, 0}, {6, 3, 0}, {6, -1, 0}, {6, 1, 3}, {6, 1, -1}};
        for (int[] b : bad) {
            tell(x, 0, 6, 1, 0, b[0], b[1], b[2]);
            Kit.is(x, x.sets(0, 1, 0), 4);
            none(x, 0, 2, 0, 5);
        }
        x.tray(1, 3, 60);
        for (int i = 0; i < 60; i++) { x.write(1, i, i % 3 == 0 ? 10 : 2 - i % 3); }
        Kit.is(x, x.sets(1, 20, 0), 4);
        Kit.is(x, x.slips(1, 20), 0);
        x.write(1, 57, 1L << 32);
        none(x, 1, 20, 0, 5);
        x.write(1, 57, 0);
        Kit.is(x, x.sets(1, 20, 1), 4);
        Kit.is(x, x.sets(1, 20, 19), 4);
        Kit.is(x, x.sets(1, 20, 20), 8);
    }
}
