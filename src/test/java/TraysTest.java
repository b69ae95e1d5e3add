/** Promises 1 to 8. */
public final class TraysTest {
    public static void main(String[] args) {
        newObject();
        statusStays();
        fractionStays();
        trays();
        sorts();
        places();
        pouring();
        Due.finish();
    }

    private static void newObject() {
        MedalBoard x = new MedalBoard();
        Due.is("new: status()", x.status(), 0);
        Due.is("new: top()", x.top(), 0);
        Due.is("new: bottom()", x.bottom(), 1);
        Due.is("new: fault(0)", x.fault(0), -1);
        Due.is("new: fault(1)", x.fault(1), -1);
        for (int what = 0; what < 10; what++) {
            Due.answered("new: told(" + what + ")", x, x.told(what), what == 1 ? 1 : what == 2 ? 50 : 0);
        }
        for (int tray = 0; tray < 4; tray++) {
            Due.refused("new: read(" + tray + ", 0)", x, x.read(tray, 0), 2);
        }
        Due.refused("new: army(1)", x, x.army(1), 1);
        Due.refused("new: live(0)", x, x.live(0), 6);
        Due.refused("new: lived(0)", x, x.lived(0), 6);
        Due.refused("new: undo()", x, x.undo(), 6);
    }

    private static void statusStays() {
        MedalBoard x = new MedalBoard();
        x.man(0, 0);
        Due.is("status of the latest", x.status(), 1);
        Due.is("status twice", x.status(), 1);
        x.top();
        x.bottom();
        x.feed(0, 0, 0, 0, 0);
        x.fault(0);
        x.fault(7);
        Due.is("calls without a status leave it", x.status(), 1);
        x.told(0);
        Due.is("status of the latest, now", x.status(), 0);
    }

    private static void fractionStays() {
        MedalBoard x = new MedalBoard();
        x.enlist(10, 1);
        Due.fraction("chance(0, 1, 1)", x, x.chance(0, 1, 1), 1, 2);
        Due.refused("chance(1, 1, 1)", x, x.chance(1, 1, 1), 1);
        x.told(0);
        x.mightiest();
        Due.is("top stays", x.top(), 1);
        Due.is("bottom stays", x.bottom(), 2);
        Due.fraction("chance(0, 0, 1) is 0 by 1", x, x.chance(0, 0, 1), 0, 1);
    }

    private static void trays() {
        MedalBoard x = new MedalBoard();
        Due.refused("tray(-1, 0, 0)", x, x.tray(-1, 0, 0), 1);
        Due.refused("tray(4, 0, 0)", x, x.tray(4, 0, 0), 1);
        Due.refused("tray(0, -1, 0)", x, x.tray(0, -1, 0), 1);
        Due.refused("tray(0, 4, 0)", x, x.tray(0, 4, 0), 1);
        Due.refused("tray(0, 0, -1)", x, x.tray(0, 0, -1), 1);
        Due.refused("tray(0, 0, 61)", x, x.tray(0, 0, 61), 1);
        Due.refused("still missing", x, x.read(0, 0), 2);
        Due.answered("tray(0, 3, 60)", x, x.tray(0, 3, 60));
        Due.answered("read(0, 59)", x, x.read(0, 59), 0);
        Due.answered("write(0, 59, 9)", x, x.write(0, 59, 9));
        Due.answered("read(0, 59)", x, x.read(0, 59), 9);
        Due.answered("tray(0, 3, 60) anew", x, x.tray(0, 3, 60));
        Due.answered("read(0, 59)", x, x.read(0, 59), 0);
        Due.answered("tray(3, 0, 0)", x, x.tray(3, 0, 0));
        Due.refused("read(3, 0)", x, x.read(3, 0), 3);
    }

    private static void sorts() {
        MedalBoard x = new MedalBoard();
        long[] want = {(byte) 0x1234567890abcdefL, (short) 0x1234567890abcdefL, (int) 0x1234567890abcdefL, 0x1234567890abcdefL};
        for (int sort = 0; sort < 4; sort++) {
            x.tray(sort, sort, 2);
            Due.answered("write sort " + sort, x, x.write(sort, 1, 0x1234567890abcdefL));
            Due.answered("read sort " + sort, x, x.read(sort, 1), want[sort]);
            Due.answered("write -1", x, x.write(sort, 0, -1));
            Due.answered("read -1", x, x.read(sort, 0), -1);
        }
        x.write(0, 0, 128);
        Due.answered("128 of 8 bits", x, x.read(0, 0), -128);
        x.write(1, 0, 32768);
        Due.answered("32768 of 16 bits", x, x.read(1, 0), -32768);
    }

    private static void places() {
        MedalBoard x = new MedalBoard();
        x.tray(2, 2, 5);
        Due.refused("write(4, 0, 0)", x, x.write(4, 0, 0), 1);
        Due.refused("write(-1, 0, 0)", x, x.write(-1, 0, 0), 1);
        Due.refused("write(1, 0, 0)", x, x.write(1, 0, 0), 2);
        Due.refused("write(1, -1, 0)", x, x.write(1, -1, 0), 2);
        Due.refused("write(2, 5, 0)", x, x.write(2, 5, 0), 3);
        Due.refused("write(2, -1, 0)", x, x.write(2, -1, 0), 3);
        Due.refused("write(2, MIN, 0)", x, x.write(2, Integer.MIN_VALUE, 0), 3);
        Due.refused("read(4, 0)", x, x.read(4, 0), 1);
        Due.refused("read(1, 9)", x, x.read(1, 9), 2);
        Due.refused("read(2, 5)", x, x.read(2, 5), 3);
        Due.refused("read(2, -1)", x, x.read(2, -1), 3);
        Due.refused("read(2, MAX)", x, x.read(2, Integer.MAX_VALUE), 3);
    }

    private static void row(String what, MedalBoard x, int tray, int... want) {
        for (int i = 0; i < want.length; i++) {
            Due.is(what + ": place " + i, x.read(tray, i), want[i]);
        }
    }

    private static void pouring() {
        MedalBoard x = new MedalBoard();
        Due.fill(x, 0, 1, 2, 3, 4, 5);
        Due.fill(x, 1, 7, 7, 7);
        x.tray(2, 0, 5);
        Due.answered("pour(0, 1, 1, 0, 2)", x, x.pour(0, 1, 1, 0, 2));
        row("poured", x, 1, 2, 3, 7);
        row("source", x, 0, 1, 2, 3, 4, 5);
        Due.answered("onto its own, forth", x, x.pour(0, 0, 0, 1, 4));
        row("forth", x, 0, 1, 1, 2, 3, 4);
        Due.answered("onto its own, back", x, x.pour(0, 1, 0, 0, 4));
        row("back", x, 0, 1, 2, 3, 4, 4);
        Due.answered("none from the end", x, x.pour(0, 5, 1, 3, 0));
        Due.refused("pour(4, ..)", x, x.pour(4, 0, 1, 0, 1), 1);
        Due.refused("pour(.., -1, ..)", x, x.pour(0, 0, -1, 0, 1), 1);
        Due.refused("many below 0", x, x.pour(0, 0, 3, 0, -1), 1);
        Due.refused("place below 0", x, x.pour(0, -1, 3, 0, 1), 1);
        Due.refused("at below 0", x, x.pour(0, 0, 3, -1, 1), 1);
        Due.refused("to a missing one", x, x.pour(0, 0, 3, 99, 1), 2);
        Due.refused("from a missing one", x, x.pour(3, 0, 2, 99, 1), 2);
        Due.refused("unlike sorts ahead of places", x, x.pour(0, 99, 2, 0, 1), 8);
        Due.refused("too many of the source", x, x.pour(0, 4, 0, 0, 2), 3);
        Due.refused("too many for the target", x, x.pour(0, 0, 1, 2, 2), 3);
        Due.refused("far too many", x, x.pour(0, Integer.MAX_VALUE, 0, Integer.MAX_VALUE, Integer.MAX_VALUE), 3);
        Due.refused("one behind the end", x, x.pour(0, 6, 0, 0, 0), 3);
        row("nothing came", x, 0, 1, 2, 3, 4, 4);
    }
}
