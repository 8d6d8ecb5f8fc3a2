/** Promises 1 to 8 and 52. */
public final class TrayTests {
    public static void main(String[] args) {
        fresh();
        statusAndFraction();
        tray();
        writeAndRead();
        pour();
        copyPlaces();
        Kit.end("TrayTests");
    }

    private static void fresh() {
        Kit.promise("promise 1");
        CageLeave x = new CageLeave();
        Kit.due(x.status(), 0);
        Kit.due(x.top(), 0);
        Kit.due(x.bottom(), 1);
        Kit.due(CageLeave.NONE, -1);
        for (int what = 0; what <= 10; what++) { Kit.is(x, x.told(what), what == 3 ? 2 : 0); }
        for (int t = 0; t < 4; t++) { Kit.none(x, x.read(t, 0), 2); }
        Kit.none(x, x.park(1), 1);
        Kit.none(x, x.undo(), 6);
        Kit.none(x, x.live(0), 6);
        Kit.none(x, x.train(0, 0), 1);
        Kit.none(x, x.beast(0, 0), 1);
        Kit.none(x, x.there(0), 1);
        Kit.due(x.fault(0), -1);
    }

    private static void statusAndFraction() {
        Kit.promise("promises 2 to 4");
        CageLeave x = Kit.park(Kit.ZOO);
        Kit.none(x, x.told(11), 1);
        x.top();
        x.bottom();
        x.feed(0, 0, 0, 0, 0);
        x.fault(0);
        Kit.due(x.status(), 1);
        Kit.due(x.status(), 1);
        Kit.fraction(x, x.back(3, 1), 7, 8);
        Kit.not(x, x.back(8, 0), 1);
        Kit.not(x, x.snow(3), 1);
        Kit.not(x, x.mean(0, 0), 1);
        Kit.due(x.top(), 7);
        Kit.due(x.bottom(), 8);
        x.told(0);
        Kit.due(x.top(), 7);
        Kit.fraction(x, x.back(0, 1), 0, 1);
    }

    private static void tray() {
        Kit.promise("promise 5");
        CageLeave x = new CageLeave();
        Kit.not(x, x.tray(-1, 0, 1), 1);
        Kit.not(x, x.tray(4, 0, 1), 1);
        Kit.not(x, x.tray(0, -1, 1), 1);
        Kit.not(x, x.tray(0, 4, 1), 1);
        Kit.not(x, x.tray(0, 0, -1), 1);
        Kit.not(x, x.tray(0, 0, 61), 1);
        Kit.none(x, x.read(0, 0), 2);
        Kit.yes(x, x.tray(0, 3, 60));
        Kit.is(x, x.read(0, 59), 0);
        Kit.yes(x, x.write(0, 59, 5));
        Kit.yes(x, x.write(0, 0, 5));
        Kit.not(x, x.tray(0, 0, 61), 1);
        Kit.is(x, x.read(0, 59), 5);
        Kit.yes(x, x.tray(0, 3, 60));
        Kit.is(x, x.read(0, 59), 0);
        Kit.is(x, x.read(0, 0), 0);
        Kit.yes(x, x.tray(0, 3, 0));
        Kit.none(x, x.read(0, 0), 3);
    }

    private static void writeAndRead() {
        Kit.promise("promises 6, 7");
        CageLeave x = new CageLeave();
        Kit.not(x, x.write(4, 0, 1), 1);
        Kit.not(x, x.write(-1, 0, 1), 1);
        Kit.not(x, x.write(1, -1, 1), 2);
        Kit.none(x, x.read(4, 0), 1);
        Kit.none(x, x.read(-1, 0), 1);
        Kit.none(x, x.read(1, 99), 2);
        long[] cut = {-1, -1, -1, -1};
        long[] v = {0x7fL, 0x7fffL, 0x7fffffffL, Long.MAX_VALUE};
        for (int sort = 0; sort < 4; sort++) {
            Kit.yes(x, x.tray(sort, sort, 3));
            Kit.not(x, x.write(sort, 3, 1), 3);
            Kit.not(x, x.write(sort, -1, 1), 3);
            Kit.none(x, x.read(sort, 3), 3);
            Kit.none(x, x.read(sort, -1), 3);
            Kit.yes(x, x.write(sort, 0, cut[sort]));
            Kit.is(x, x.read(sort, 0), -1);
            Kit.yes(x, x.write(sort, 1, v[sort]));
            Kit.is(x, x.read(sort, 1), v[sort]);
            Kit.yes(x, x.write(sort, 2, v[sort] + 1));
            Kit.is(x, x.read(sort, 2), -v[sort] - 1);
            Kit.is(x, x.read(sort, 1), v[sort]);
        }
        Kit.yes(x, x.write(0, 0, 0x1234567890L));
        Kit.is(x, x.read(0, 0), 0x90L - 256);
        Kit.yes(x, x.write(1, 0, 0x1234567890L));
        Kit.is(x, x.read(1, 0), 0x7890);
        Kit.yes(x, x.write(2, 0, 0x1234567890L));
        Kit.is(x, x.read(2, 0), 0x34567890);
        Kit.yes(x, x.write(3, 0, 0x1234567890L));
        Kit.is(x, x.read(3, 0), 0x1234567890L);
    }

    private static void pour() {
        Kit.promise("promise 8");
        CageLeave x = new CageLeave();
        x.tray(0, 1, 5);
        for (int i = 0; i < 5; i++) { x.write(0, i, i + 1); }
        Kit.not(x, x.pour(4, 0, 1, 0, 0), 1);
        Kit.not(x, x.pour(0, 0, -1, 0, 0), 1);
        Kit.not(x, x.pour(0, -1, 1, 0, 0), 1);
        Kit.not(x, x.pour(0, 0, 1, -1, 0), 1);
        Kit.not(x, x.pour(0, 0, 1, 0, -1), 1);
        Kit.not(x, x.pour(0, 9, 1, 0, 0), 2);
        Kit.not(x, x.pour(1, 0, 0, 0, 1), 2);
        x.tray(1, 2, 2);
        Kit.not(x, x.pour(0, 9, 1, 0, 1), 8);
        x.tray(1, 1, 2);
        Kit.not(x, x.pour(0, 4, 1, 0, 2), 3);
        Kit.not(x, x.pour(0, 0, 1, 1, 2), 3);
        Kit.not(x, x.pour(0, 1, 1, 0, Integer.MAX_VALUE), 3);
        Kit.not(x, x.pour(0, Integer.MAX_VALUE, 1, 0, 1), 3);
        Kit.is(x, x.read(1, 0), 0);
        Kit.yes(x, x.pour(0, 3, 1, 0, 2));
        Kit.is(x, x.read(1, 0), 4);
        Kit.is(x, x.read(1, 1), 5);
        Kit.yes(x, x.pour(0, 0, 0, 1, 4));
        int[] ahead = {1, 1, 2, 3, 4};
        for (int i = 0; i < 5; i++) { Kit.is(x, x.read(0, i), ahead[i]); }
        Kit.yes(x, x.pour(0, 1, 0, 0, 4));
        int[] back = {1, 2, 3, 4, 4};
        for (int i = 0; i < 5; i++) { Kit.is(x, x.read(0, i), back[i]); }
        Kit.yes(x, x.pour(0, 5, 1, 2, 0));
    }

    private static void copyPlaces() {
        Kit.promise("promise 52");
        CageLeave x = Kit.park(Kit.ZOO);
        Kit.none(x, x.copyPlaces(4), 1);
        Kit.none(x, x.copyPlaces(-1), 1);
        Kit.none(x, x.copyPlaces(2), 2);
        x.tray(2, 0, 2);
        Kit.none(x, x.copyPlaces(2), 3);
        x.tray(2, 0, 4);
        x.write(2, 3, 9);
        x.hour(3);
        Kit.is(x, x.copyPlaces(2), 3);
        int[] riding = {10, 0, 0, 9};
        for (int i = 0; i < 4; i++) { Kit.is(x, x.read(2, i), riding[i]); }
        x.hour(10);
        Kit.is(x, x.copyPlaces(2), 3);
        int[] eaten = {1, -1, 0, 9};
        for (int i = 0; i < 4; i++) { Kit.is(x, x.read(2, i), eaten[i]); }
    }
}
