/** Promises 1 to 8: a new object, STATUS, FRACTION, TRAYS. */
public final class TrayTest {
    private static final Check check = new Check();

    public static void main(String[] args) {
        newObject();
        status();
        fraction();
        trays();
        sorts();
        pours();
        check.end();
    }

    private static void newObject() {
        LicensedVoice x = new LicensedVoice();
        check.due("NONE", LicensedVoice.NONE, -1);
        check.due("status", x.status(), 0);
        check.due("top", x.top(), 0);
        check.due("bottom", x.bottom(), 1);
        for (int what = 0; what <= 11; what++) {
            check.due("many " + what, x.many(what), what == 4 ? 1 : 0);
        }
        for (int tray = 0; tray < 4; tray++) {
            check.refused("read", x, x.read(tray, 0), 3);
        }
        check.refused("live", x, x.live(0), 8);
        check.refused("back", x, x.back(), 8);
        check.refused("town of no tape", x, x.town(1), 5);
        check.due("fault", x.fault(0), -1);
        check.due("fault", x.fault(1), -1);
    }

    private static void status() {
        LicensedVoice x = new LicensedVoice();
        x.many(12);
        check.due("status", x.status(), 5);
        x.feed(0, 0, 0, 0, 0);
        x.fault(0);
        x.top();
        x.bottom();
        check.due("status of calls that have none", x.status(), 5);
        check.due("status again", x.status(), 5);
        x.many(0);
        check.due("status", x.status(), 0);
    }

    private static void fraction() {
        LicensedVoice x = Check.inTown(Check.TOWN);
        check.fraction("alive", x, x.alive(0, 2), 9, 16);
        x.many(0);
        check.denied("alive", x, x.alive(0, 13), 5);
        check.due("top stays", x.top(), 9);
        check.due("bottom stays", x.bottom(), 16);
    }

    private static void trays() {
        LicensedVoice x = new LicensedVoice();
        check.denied("tray", x, x.tray(-1, 0, 1), 1);
        check.denied("tray", x, x.tray(4, 0, 61), 1);
        check.denied("tray", x, x.tray(0, -1, 1), 1);
        check.denied("tray", x, x.tray(0, 4, -1), 1);
        check.denied("tray", x, x.tray(0, 0, 61), 5);
        check.denied("tray", x, x.tray(0, 0, -1), 6);
        check.refused("read", x, x.read(0, 0), 3);
        check.due("tray", x.tray(0, 3, 60), true);
        check.due("write", x.write(0, 59, 7), true);
        check.due("read", x.read(0, 59), 7);
        check.due("read", x.read(0, 58), 0);
        check.refused("read", x, x.read(0, 60), 4);
        check.refused("read", x, x.read(0, -1), 4);
        check.refused("read", x, x.read(4, 0), 1);
        check.refused("read", x, x.read(1, -1), 3);
        check.denied("write", x, x.write(0, 60, 1), 4);
        check.denied("write", x, x.write(0, Integer.MIN_VALUE, 1), 4);
        check.denied("write", x, x.write(-1, 0, 1), 1);
        check.denied("write", x, x.write(3, 0, 1), 3);
        check.denied("tray", x, x.tray(0, 3, 61), 5);
        check.due("read", x.read(0, 59), 7);
        check.due("tray anew", x.tray(0, 3, 60), true);
        check.due("all 0", x.read(0, 59), 0);
        check.due("tray of nothing", x.tray(0, 1, 0), true);
        check.refused("read", x, x.read(0, 0), 4);
    }

    private static void sorts() {
        LicensedVoice x = new LicensedVoice();
        long v = 0x123456789abcdef0L;
        long[] cut = {(byte) v, (short) v, (int) v, v};
        for (int sort = 0; sort < 4; sort++) {
            x.tray(sort, sort, 2);
            x.write(sort, 0, v);
            x.write(sort, 1, -1);
            check.due("sort " + sort, x.read(sort, 0), cut[sort]);
            check.due("-1 in sort " + sort, x.read(sort, 1), -1);
            check.due("status", x.status(), 0);
        }
        x.write(0, 0, 128);
        check.due("128 in 8 bits", x.read(0, 0), -128);
    }

    private static void pours() {
        LicensedVoice x = new LicensedVoice();
        x.tray(0, 2, 5);
        x.tray(1, 2, 3);
        x.tray(2, 1, 3);
        for (int i = 0; i < 5; i++) {
            x.write(0, i, i + 1);
        }
        check.denied("pour", x, x.pour(4, 0, 0, 0, 1), 1);
        check.denied("pour", x, x.pour(0, 0, -1, 0, -1), 1);
        check.denied("pour", x, x.pour(3, 0, 0, 0, -1), 3);
        check.denied("pour", x, x.pour(0, 9, 3, 0, -1), 3);
        check.denied("pour", x, x.pour(0, 0, 2, 0, -1), 11);
        check.denied("pour", x, x.pour(0, 9, 1, 9, -1), 6);
        check.denied("pour", x, x.pour(0, 3, 1, 0, 3), 4);
        check.denied("pour", x, x.pour(0, 0, 1, 1, 3), 4);
        check.denied("pour", x, x.pour(0, -1, 1, 0, 1), 4);
        check.denied("pour", x, x.pour(0, Integer.MAX_VALUE, 1, 0, Integer.MAX_VALUE), 4);
        check.denied("pour", x, x.pour(0, 0, 1, 0, Integer.MAX_VALUE), 4);
        check.due("read", x.read(1, 0), 0);
        check.due("pour", x.pour(0, 2, 1, 0, 3), true);
        check.due("read", x.read(1, 0), 3);
        check.due("read", x.read(1, 2), 5);
        check.due("pour nothing", x.pour(0, 5, 1, 3, 0), true);
        check.due("pour up in itself", x.pour(0, 0, 0, 1, 4), true);
        for (int i = 0; i < 5; i++) {
            check.due("read " + i, x.read(0, i), Math.max(1, i));
        }
        check.due("pour down in itself", x.pour(0, 1, 0, 0, 4), true);
        for (int i = 0; i < 5; i++) {
            check.due("read " + i, x.read(0, i), Math.min(4, i + 1));
        }
    }
}
