/** Promises 1 to 8: a new object, STATUS, the FRACTION, TRAYS. */
public final class TraysTest {
    public static void main(String[] args) {
        newObject();
        statusOfLatest();
        trayKinds();
        writeAndRead();
        pour();
        Due.end("TraysTest");
    }

    private static void newObject() {
        LikeRegistry x = new LikeRegistry();
        Due.is("status", x.status(), 0);
        Due.is("top", x.top(), 0);
        Due.is("bottom", x.bottom(), 1);
        Due.is("fault 0", x.fault(0), -1);
        Due.is("fault 1", x.fault(1), -1);
        int[] due = {0, 0, 0, 3, 2, 3, 8, 0, 63, 0};
        for (int what = 0; what < due.length; what++) {
            Due.fine(x, "told " + what, x.told(what), due[what]);
        }
        for (int tray = 0; tray < 4; tray++) {
            Due.refused(x, "read of a missing tray", x.read(tray, 0), 2);
        }
        Due.refused(x, "live without days", x.live(0), 6);
        Due.refused(x, "lived without a life", x.lived(0), 6);
        Due.refused(x, "undo without a mark", x.undo(), 6);
        Due.refused(x, "registry of an empty tape", x.registry(1), 1);
        Due.is("constant", LikeRegistry.NONE, -1);
    }

    private static void statusOfLatest() {
        LikeRegistry x = new LikeRegistry();
        Due.refused(x, "told 10", x.told(10), 1);
        x.feed(0, 0, 0, 0, 0);
        x.top();
        x.bottom();
        x.fault(0);
        x.status();
        Due.is("status stays by calls that have none", x.status(), 1);
        x.told(0);
        Due.is("status of the latest", x.status(), 0);
    }

    private static void trayKinds() {
        LikeRegistry x = new LikeRegistry();
        Due.refused(x, "tray -1", x.tray(-1, 0, 1), 1);
        Due.refused(x, "tray 4", x.tray(4, 0, 1), 1);
        Due.refused(x, "sort -1", x.tray(0, -1, 1), 1);
        Due.refused(x, "sort 4", x.tray(0, 4, 1), 1);
        Due.refused(x, "many -1", x.tray(0, 0, -1), 1);
        Due.refused(x, "many 61", x.tray(0, 0, 61), 1);
        Due.refused(x, "still missing", x.read(0, 0), 2);
        Due.fine(x, "many 60", x.tray(0, 3, 60));
        Due.fine(x, "last place", x.read(0, 59), 0);
        Due.refused(x, "behind the last", x.read(0, 60), 3);
        Due.fine(x, "write", x.write(0, 59, 7));
        Due.fine(x, "again", x.tray(0, 3, 60));
        Due.fine(x, "zeros again", x.read(0, 59), 0);
        Due.fine(x, "many 0", x.tray(1, 0, 0));
        Due.refused(x, "no place at all", x.read(1, 0), 3);
    }

    private static void writeAndRead() {
        LikeRegistry x = new LikeRegistry();
        long v = 0x1234_5678_9ABC_DEF0L;
        long[] due = {(byte) v, (short) v, (int) v, v};
        for (int sort = 0; sort < 4; sort++) {
            Due.fine(x, "tray", x.tray(sort, sort, 3));
            Due.fine(x, "write", x.write(sort, 2, v));
            Due.fine(x, "cut by sort " + sort, x.read(sort, 2), due[sort]);
            Due.fine(x, "write", x.write(sort, 0, -1));
            Due.fine(x, "-1 by sort " + sort, x.read(sort, 0), -1);
            Due.fine(x, "beside", x.read(sort, 1), 0);
        }
        Due.fine(x, "write 128", x.write(0, 1, 128));
        Due.fine(x, "128 in 8 bits", x.read(0, 1), -128);
        Due.refused(x, "write tray 4", x.write(4, 0, 1), 1);
        Due.refused(x, "write tray -1", x.write(-1, 0, 1), 1);
        Due.refused(x, "write place 3", x.write(0, 3, 1), 3);
        Due.refused(x, "write place -1", x.write(0, -1, 1), 3);
        Due.refused(x, "read tray 4", x.read(4, 0), 1);
        Due.refused(x, "read place -1", x.read(0, -1), 3);
        LikeRegistry y = new LikeRegistry();
        Due.refused(y, "missing ahead of place", y.write(0, 99, 1), 2);
    }

    private static void pour() {
        LikeRegistry x = new LikeRegistry();
        x.tray(0, 1, 6);
        x.tray(1, 1, 4);
        x.tray(2, 2, 4);
        for (int k = 0; k < 6; k++) {
            x.write(0, k, 10 + k);
        }
        Due.fine(x, "pour to another", x.pour(0, 2, 1, 1, 3));
        expect(x, 1, 0, 12, 13, 14);
        Due.fine(x, "pour on itself, upwards", x.pour(0, 0, 0, 1, 5));
        expect(x, 0, 10, 10, 11, 12, 13, 14);
        Due.fine(x, "pour on itself, downwards", x.pour(0, 2, 0, 0, 4));
        expect(x, 0, 11, 12, 13, 14, 13, 14);
        Due.fine(x, "pour none", x.pour(0, 6, 1, 4, 0));
        Due.refused(x, "from -1", x.pour(-1, 0, 0, 0, 1), 1);
        Due.refused(x, "to 4", x.pour(0, 0, 4, 0, 1), 1);
        Due.refused(x, "place -1", x.pour(0, -1, 1, 0, 1), 1);
        Due.refused(x, "at -1", x.pour(0, 0, 1, -1, 1), 1);
        Due.refused(x, "many -1", x.pour(0, 0, 1, 0, -1), 1);
        Due.refused(x, "below 0 ahead of missing", x.pour(0, 0, 3, 0, -1), 1);
        Due.refused(x, "from missing", x.pour(3, 0, 0, 0, 1), 2);
        Due.refused(x, "to missing", x.pour(0, 0, 3, 0, 1), 2);
        Due.refused(x, "missing ahead of sorts", x.pour(2, 0, 3, 0, 99), 2);
        Due.refused(x, "unlike sorts", x.pour(0, 0, 2, 0, 1), 8);
        Due.refused(x, "sorts ahead of places", x.pour(0, 5, 2, 3, 9), 8);
        Due.refused(x, "too few to pour", x.pour(0, 4, 1, 0, 3), 3);
        Due.refused(x, "too few to pour to", x.pour(0, 0, 1, 2, 3), 3);
        Due.refused(x, "far away", x.pour(0, Integer.MAX_VALUE, 1, 0, Integer.MAX_VALUE), 3);
        Due.refused(x, "no such place for none", x.pour(0, 7, 1, 0, 0), 3);
        expect(x, 0, 11, 12, 13, 14, 13, 14);
        expect(x, 1, 0, 12, 13, 14);
    }

    private static void expect(LikeRegistry x, int tray, long... due) {
        for (int k = 0; k < due.length; k++) {
            Due.fine(x, "tray " + tray + " place " + k, x.read(tray, k), due[k]);
        }
    }
}
