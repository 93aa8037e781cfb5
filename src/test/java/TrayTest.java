/** Promises 1 to 8: a new object, STATUS, the FRACTION, TRAYS. */
public final class TrayTest {
    private static final Check CHECK = new Check("TrayTest");

    public static void main(String[] args) {
        newObject();
        statusStays();
        trays();
        cuts();
        readsAndWrites();
        pours();
        CHECK.end();
    }

    private static void newObject() {
        RainJury x = new RainJury();
        CHECK.due("status()", x.status(), 0);
        CHECK.fraction(x, "new", 0, 1);
        for (int i = 0; i < 4; i++) {
            CHECK.bad(x, "read(missing)", x.read(i, 0), 3);
        }
        for (int what = 0; what < 4; what++) {
            CHECK.good(x, "many", x.many(what), 0);
        }
        CHECK.bad(x, "many(4)", x.many(4), 8);
        CHECK.good(x, "many(5)", x.many(5), 0);
        CHECK.good(x, "many(6)", x.many(6), 0);
        CHECK.good(x, "many(7)", x.many(7), 0);
        CHECK.bad(x, "many(8)", x.many(8), 8);
        CHECK.good(x, "many(9)", x.many(9), 0);
        CHECK.good(x, "many(10)", x.many(10), 0);
        CHECK.good(x, "many(11)", x.many(11), 0);
        CHECK.bad(x, "live(0)", x.live(0), 8);
        CHECK.bad(x, "back()", x.back(), 8);
        CHECK.due("fault(0)", x.fault(0), -1);
        CHECK.due("fault(1)", x.fault(1), -1);
        CHECK.bad(x, "court(1)", x.court(1), 5);
        CHECK.bad(x, "orderAt(0)", x.orderAt(0), 8);
        CHECK.bad(x, "bribeSet()", x.bribeSet(), 8);
        CHECK.bad(x, "lived(0)", x.lived(0), 8);
    }

    private static void statusStays() {
        RainJury x = new RainJury();
        CHECK.bad(x, "many(-1)", x.many(-1), 5);
        x.fault(0);
        x.feed(0, 0, 0, 0, 0);
        x.top();
        x.bottom();
        CHECK.due("status() again", x.status(), 5);
        CHECK.due("status() again", x.status(), 5);
        CHECK.good(x, "many(0)", x.many(0), 0);
    }

    private static void trays() {
        RainJury x = new RainJury();
        int[] least = {Integer.MIN_VALUE, -1, 4, Integer.MAX_VALUE};
        for (int no : least) {
            CHECK.bad(x, "tray(no)", x.tray(no, 0, 1), 1);
            CHECK.bad(x, "tray(sort)", x.tray(0, no, 1), 1);
            CHECK.bad(x, "tray(no, 61)", x.tray(no, 0, 61), 1);
            CHECK.bad(x, "tray(sort, -1)", x.tray(0, no, -1), 1);
        }
        CHECK.bad(x, "tray(61)", x.tray(0, 0, 61), 5);
        CHECK.bad(x, "tray(max)", x.tray(0, 0, Integer.MAX_VALUE), 5);
        CHECK.bad(x, "tray(-1)", x.tray(0, 0, -1), 6);
        CHECK.bad(x, "tray(min)", x.tray(0, 0, Integer.MIN_VALUE), 6);
        CHECK.bad(x, "read", x.read(0, 0), 3);
        CHECK.good(x, "tray(0)", x.tray(0, 0, 0));
        CHECK.bad(x, "read", x.read(0, 0), 4);
        CHECK.good(x, "tray(60)", x.tray(0, 3, 60));
        for (int i = 0; i < 60; i++) {
            CHECK.good(x, "read", x.read(0, i), 0);
            CHECK.good(x, "write", x.write(0, i, i + 1));
        }
        CHECK.bad(x, "read(60)", x.read(0, 60), 4);
        CHECK.bad(x, "tray stays", x.tray(0, 1, 61), 5);
        CHECK.good(x, "read", x.read(0, 59), 60);
        CHECK.good(x, "tray anew", x.tray(0, 3, 60));
        for (int i = 0; i < 60; i++) {
            CHECK.good(x, "read anew", x.read(0, i), 0);
        }
    }

    private static void cuts() {
        RainJury x = new RainJury();
        long[] numbers = {0, 1, -1, 127, 128, -128, -129, 255, 256, 32767, 32768, -32769, 65535, 1L << 31,
            (1L << 31) - 1, -(1L << 31) - 1, 1L << 32, Long.MAX_VALUE, Long.MIN_VALUE, 0x0123456789abcdefL};
        for (int sort = 0; sort < 4; sort++) {
            x.tray(sort, sort, numbers.length);
            int bits = 8 << sort;
            for (int i = 0; i < numbers.length; i++) {
                CHECK.good(x, "write", x.write(sort, i, numbers[i]));
                long want = numbers[i] << 64 - bits >> 64 - bits;
                CHECK.good(x, "read " + numbers[i] + " by sort " + sort, x.read(sort, i), want);
            }
        }
    }

    private static void readsAndWrites() {
        RainJury x = new RainJury();
        x.tray(1, 0, 3);
        int[] noTrays = {-1, 4, Integer.MIN_VALUE, Integer.MAX_VALUE};
        int[] noPlaces = {-1, 3, Integer.MIN_VALUE, Integer.MAX_VALUE};
        for (int no : noTrays) {
            CHECK.bad(x, "read", x.read(no, 0), 1);
            CHECK.bad(x, "write", x.write(no, 0, 1), 1);
            CHECK.bad(x, "read", x.read(no, -1), 1);
        }
        for (int no : noPlaces) {
            CHECK.bad(x, "read missing", x.read(0, no), 3);
            CHECK.bad(x, "write missing", x.write(0, no, 1), 3);
            CHECK.bad(x, "read", x.read(1, no), 4);
            CHECK.bad(x, "write", x.write(1, no, 1), 4);
        }
        CHECK.good(x, "write", x.write(1, 2, -1));
        CHECK.good(x, "read -1", x.read(1, 2), -1);
        CHECK.good(x, "others stay", x.read(1, 1), 0);
    }

    private static void pours() {
        RainJury x = new RainJury();
        x.tray(0, 2, 5);
        x.tray(1, 2, 4);
        x.tray(2, 1, 5);
        for (int i = 0; i < 5; i++) {
            x.write(0, i, 10 + i);
        }
        CHECK.bad(x, "1 ahead of 3", x.pour(3, 0, 4, 0, 1), 1);
        CHECK.bad(x, "pour(-1)", x.pour(-1, 0, 0, 0, 1), 1);
        CHECK.bad(x, "from missing", x.pour(3, 0, 0, 0, 1), 3);
        CHECK.bad(x, "to missing", x.pour(0, 0, 3, 0, 1), 3);
        CHECK.bad(x, "unlike ahead of below 0", x.pour(0, 0, 2, 0, -1), 11);
        CHECK.bad(x, "below 0 ahead of places", x.pour(0, -1, 1, 0, -1), 6);
        CHECK.bad(x, "place i", x.pour(0, -1, 1, 0, 1), 4);
        CHECK.bad(x, "place j", x.pour(0, 0, 1, -1, 1), 4);
        CHECK.bad(x, "too few", x.pour(0, 2, 1, 0, 4), 4);
        CHECK.bad(x, "too few there", x.pour(0, 0, 1, 0, 5), 4);
        CHECK.bad(x, "far", x.pour(0, Integer.MAX_VALUE, 1, 0, Integer.MAX_VALUE), 4);
        CHECK.bad(x, "far", x.pour(0, 1, 1, 1, Integer.MAX_VALUE), 4);
        CHECK.bad(x, "none, from beyond the end", x.pour(0, 6, 1, 0, 0), 4);
        CHECK.good(x, "none", x.pour(0, 5, 1, 4, 0));
        CHECK.good(x, "read", x.read(1, 0), 0);
        CHECK.good(x, "pour", x.pour(0, 1, 1, 0, 4));
        for (int i = 0; i < 4; i++) {
            CHECK.good(x, "poured", x.read(1, i), 11 + i);
        }
        CHECK.good(x, "up within one", x.pour(0, 0, 0, 1, 4));
        long[] up = {10, 10, 11, 12, 13};
        for (int i = 0; i < 5; i++) {
            CHECK.good(x, "up", x.read(0, i), up[i]);
        }
        CHECK.good(x, "down within one", x.pour(0, 2, 0, 0, 3));
        long[] down = {11, 12, 13, 12, 13};
        for (int i = 0; i < 5; i++) {
            CHECK.good(x, "down", x.read(0, i), down[i]);
        }
    }
}
