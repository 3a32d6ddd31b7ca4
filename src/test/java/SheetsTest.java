/** Promises 32 to 37: what is seen, films, sheets that may be missing; and the constants of the face. */
public final class SheetsTest {
    private static final Check check = new Check();
    private static final int MIN = Integer.MIN_VALUE, MAX = Integer.MAX_VALUE;

    public static void main(String[] args) {
        constants();
        seen();
        seenOnLanes();
        seenIsRefused();
        film();
        filmIsRefused();
        sheet();
        drop();
        item();
        copy();
        copyIsRefused();
        check.end("SheetsTest");
    }

    private static void constants() {
        int[] got = {CarriedGate.BAD, CarriedGate.NOT, CarriedGate.FULL, CarriedGate.NONE, CarriedGate.NULL, CarriedGate.CAST,
            CarriedGate.INDEX, CarriedGate.SIZE};
        int[] want = {-1, -2, -3, -4, -11, -12, -13, -14};
        for (int i = 0; i < want.length; i++) check.due("constant " + i, got[i], want[i]);
    }

    /** Promise 32. */
    private static void seen() {
        // One at row 2, column 0 walks east beside the gate at row 2, column 2, which looks north.
        CarriedGate gate = check.told("14n;g14.9*,s12e0", 2);
        check.put(gate, 0, 2, 2, 2, 2, 0, 0);
        check.due("32 kinds", gate.seen(1, 0, 2, 0, 1, 0), 1 << 1 | 1 << 3);
        check.due("32 kinds: shy is not in at the cell of the gate", gate.seen(1, 0, 2, 0, 3, 0), 1 << 1);
        check.due("32 kinds: none is", gate.seen(1, 0, 2, 1, 3, 0), 0);
        check.due("32 kinds of the bearer", gate.seen(0, 0, 2, 0, 3, 0), 1 << 0 | 1 << 2 | 1 << 3 | 1 << 4);
        check.due("32 walks", gate.seen(1, 0, 2, 0, 3, 1), 1 << 0 | 1 << 1 | 1 << 3 | 1 << 4);
        check.due("32 walks: not in behind the first", gate.seen(1, 0, 2, 3, 1, 1), 1 << 2);
        check.due("32 walks: not in behind two", gate.seen(1, 0, 2, 3, 2, 1), 1 << 2);
        check.due("32 looks", gate.seen(1, 0, 2, 0, 1, 2), 1 << 0 | 1 << 2 | 1 << 3);
        check.due("32 looks behind two", gate.seen(1, 0, 2, 0, 2, 2), 1 << 0 | 1 << 2 | 1 << 3);
        check.due("32 looks: whoever is told", gate.seen(0, 0, 2, 3, 1, 2), 1 << 1);
        check.due("32 from an item on", gate.seen(1, 0, 2, 2, 2, 0), 1 << 3);
        CarriedGate sheep = check.told("14n;g8s0,p20.0,s14.2*", 3);
        check.put(sheep, 1, 3, 4, 0, 0);
        check.due("32 a sheep by whom it follows", sheep.seen(0, 1, 3, 0, 3, 0), 1 << 0 | 1 << 2 | 1 << 3 | 1 << 4);
        check.put(sheep, 1, 3, 7);
        check.due("32 walks of whom it follows", sheep.seen(0, 1, 3, 0, 1, 1), 1 << 0 | 1 << 1 | 1 << 3 | 1 << 4);
        CarriedGate lying = check.told("14n;g8s0", 1);
        check.put(lying, 3, 1, 0, 0, 0, 0, 0, 0, 0, 0);
        check.due("32 it lies", lying.seen(0, 3, 1, 0, 8, 0), 31);
        check.due("32 it lies", lying.seen(0, 3, 1, 0, 8, 1), 31);
        check.due("32 it lies", lying.seen(0, 3, 1, 0, 8, 2), 15);
        check.put(lying, 3, 1, 0, 0, 1);
        check.due("32 it lies", lying.seen(0, 3, 1, 0, 3, 0), 0);
    }

    /** Promise 32: a set is read by as many bits as the lane has. */
    private static void seenOnLanes() {
        CarriedGate gate = check.told("14n;s14.9*,g0.0,g0.0,g0.0,g0.0,g0.0,g0.0,g0.0", 8);
        int both = 1 << 0 | 1 << 3;
        for (int lane = 0; lane < 4; lane++) {
            check.due("34 sheet", gate.sheet(lane, lane, 2), 2);
            check.due("33 film", gate.film(2, lane, lane, 0), 2);
            check.due("32 all eight, as filmed", gate.seen(1, lane, lane, 0, 2, 0), 1 << 0 | 1 << 1 | 1 << 3);
            check.due("36 item", gate.item(lane, lane, 1, 255 + 256), 1);
            check.due("32 a bit more", gate.seen(1, lane, lane, 0, 2, 2), lane == 0 ? both : 0);
            check.due("36 item", gate.item(lane, lane, 1, 255L + (1L << 16)), 1);
            check.due("32 a higher bit more", gate.seen(1, lane, lane, 0, 2, 2), lane < 2 ? both : 0);
            check.due("36 item", gate.item(lane, lane, 1, 255L + (1L << 32)), 1);
            check.due("32 a bit above 31 more", gate.seen(1, lane, lane, 0, 2, 2), lane < 3 ? both : 0);
            check.due("36 item", gate.item(lane, lane, 1, -1), 1);
            check.due("32 all bits", gate.seen(1, lane, lane, 0, 2, 2), lane == 0 ? both : 0);
        }
    }

    private static void seenIsRefused() {
        CarriedGate gate = check.told("14n;g14.9*,s12e0", 2);
        gate.sheet(0, 2, 3);
        int[][] bad = {{-1, 0, 2, 0, 1, 0}, {2, 0, 2, 0, 1, 0}, {0, -1, 2, 0, 1, 0}, {0, 4, 2, 0, 1, 0}, {0, 0, -1, 0, 1, 0},
            {0, 0, 4, 0, 1, 0}, {0, 0, 2, 0, 0, 0}, {0, 0, 2, 0, 9, 0}, {0, 0, 2, 0, 1, -1}, {0, 0, 2, 0, 1, 3}, {0, MAX, 2, 0, 1, 0},
            {0, 0, MIN, 0, 1, 0}, {MIN, 0, 2, 0, 1, 0}, {0, 0, 2, 0, MAX, 0}, {0, 1, 2, 0, 9, 0}, {0, 1, 4, 0, 1, 0}, {2, 0, 2, 0, 1, 2}};
        for (int[] b : bad) check.due("32 bad", gate.seen(b[0], b[1], b[2], b[3], b[4], b[5]), CarriedGate.BAD);
        check.due("32 null", gate.seen(0, 1, 2, 0, 1, 0), CarriedGate.NULL);
        check.due("32 null goes ahead of index", gate.seen(0, 1, 2, -1, 1, 0), CarriedGate.NULL);
        check.due("32 cast", gate.seen(0, 0, 3, 0, 1, 0), CarriedGate.CAST);
        check.due("32 cast goes ahead of index", gate.seen(0, 0, 1, 9, 1, 0), CarriedGate.CAST);
        int[][] index = {{-1, 1}, {3, 1}, {0, 4}, {2, 2}, {MAX, 1}, {MAX, 8}, {MIN, 8}};
        for (int[] b : index) check.due("32 index", gate.seen(0, 0, 2, b[0], b[1], 0), CarriedGate.INDEX);
        check.due("32 the last item", gate.seen(0, 0, 2, 2, 1, 2), 1 << 1);
    }

    /** Promise 33: what a film holds is looked at by what is seen. */
    private static void film() {
        CarriedGate gate = check.told("14n;g14.9*,s20n0", 2);
        // Behind 1, 2, .. hours it is beside, then ahead: 2 each; at hour 9 the gate lies.
        check.put(gate, 0, 2, 7, 7, 7, 7, 7, 7, 7, 7, 7, 7, 7, 7);
        check.due("33 film", gate.film(10, 0, 2, 1), 10);
        check.due("33 ahead of it nothing comes", gate.seen(1, 0, 2, 0, 1, 2), 0);
        check.due("33 behind it nothing comes", gate.seen(1, 0, 2, 11, 1, 2), 0);
        check.due("33 from item 1 on", gate.seen(1, 0, 2, 1, 8, 2), 1 << 0);
        gate.hours(1);
        check.due("33 from an hour later on", gate.seen(1, 0, 2, 2, 8, 0), 1 << 1);
        gate.hours(7);
        check.due("33 the ninth and tenth", gate.seen(1, 0, 2, 9, 2, 2), 15);
        CarriedGate most = check.told("14n;s14.20*", 1);
        most.sheet(2, 3, 24);
        check.due("33 24 hours", most.film(24, 2, 3, 0), 24);
        check.due("33 in", most.seen(0, 2, 3, 0, 8, 0), 1 << 1);
        check.due("33 in", most.seen(0, 2, 3, 11, 8, 0), 1 << 1);
        check.due("33 not in", most.seen(0, 2, 3, 19, 5, 0), 1 << 0 | 1 << 2 | 1 << 3 | 1 << 4);
        check.due("33 nothing is done", most.count(5), 0);
    }

    private static void filmIsRefused() {
        CarriedGate gate = check.told("14n;s14.20*", 1);
        check.put(gate, 0, 2, 0, 0, 0);
        int[][] bad = {{0, 0, 2, 0}, {25, 0, 2, 0}, {-1, 0, 2, 0}, {1, -1, 2, 0}, {1, 4, 2, 0}, {1, 0, -1, 0}, {1, 0, 4, 0}, {MAX, 0, 2, 0},
            {1, MIN, 2, 0}, {1, 0, MAX, 0}, {25, 1, 2, 0}};
        for (int[] b : bad) check.due("33 bad", gate.film(b[0], b[1], b[2], b[3]), CarriedGate.BAD);
        check.due("33 null", gate.film(1, 1, 2, -1), CarriedGate.NULL);
        check.due("33 cast", gate.film(1, 0, 1, -1), CarriedGate.CAST);
        int[][] index = {{1, -1}, {1, 3}, {4, 0}, {2, 2}, {24, MAX}, {24, MIN}};
        for (int[] b : index) check.due("33 index", gate.film(b[0], 0, 2, b[1]), CarriedGate.INDEX);
        check.due("33 refused: nothing came", gate.seen(0, 0, 2, 0, 3, 0), 1 << 0 | 1 << 2 | 1 << 3 | 1 << 4);
    }

    /** Promise 34. */
    private static void sheet() {
        CarriedGate gate = check.told("14n;g14.20*", 1);
        int[][] bad = {{-1, 0, 0}, {4, 0, 0}, {0, -1, 0}, {0, 4, 0}, {0, 0, 25}, {MAX, 0, 0}, {0, MIN, 0}, {0, 0, MAX}, {4, 0, -1}, {0, 4, -1}};
        for (int[] b : bad) check.due("34 bad", gate.sheet(b[0], b[1], b[2]), CarriedGate.BAD);
        check.due("34 size", gate.sheet(0, 0, -1), CarriedGate.SIZE);
        check.due("34 size", gate.sheet(0, 0, MIN), CarriedGate.SIZE);
        check.due("34 refused", gate.drop(0), CarriedGate.NULL);
        check.due("34 none", gate.sheet(0, 0, 0), 0);
        check.due("34 a row of none is there", gate.drop(0), 0);
        check.due("34 24", gate.sheet(3, 3, 24), 24);
        check.due("34 item", gate.item(3, 3, 0, 9), 1);
        check.due("34 refused", gate.sheet(3, 3, 25), CarriedGate.BAD);
        check.due("34 refused", gate.sheet(3, 3, -5), CarriedGate.SIZE);
        check.due("34 as before", gate.seen(0, 3, 3, 0, 1, 2), 0);
        check.due("34 anew", gate.sheet(3, 3, 2), 2);
        check.due("34 zeros", gate.seen(0, 3, 3, 0, 2, 2), 15);
        check.due("34 shorter", gate.item(3, 3, 2, 0), CarriedGate.INDEX);
    }

    /** Promise 35. */
    private static void drop() {
        CarriedGate gate = new CarriedGate();
        for (int sheet : new int[] {-1, 4, MIN, MAX}) check.due("35 bad", gate.drop(sheet), CarriedGate.BAD);
        check.due("35 null", gate.drop(2), CarriedGate.NULL);
        gate.sheet(2, 1, 7);
        gate.sheet(1, 1, 5);
        check.due("35 seven", gate.drop(2), 7);
        check.due("35 nothing", gate.drop(2), CarriedGate.NULL);
        check.due("35 nothing", gate.item(2, 1, 0, 0), CarriedGate.NULL);
        check.due("35 the other one", gate.item(1, 1, 0, 0), 1);
    }

    /** Promise 36. */
    private static void item() {
        CarriedGate gate = check.told("14n;s14.20*", 1);
        check.put(gate, 1, 0, 0, 0, 0);
        int[][] bad = {{-1, 0, 0}, {4, 0, 0}, {1, -1, 0}, {1, 4, 0}, {MAX, 0, 0}, {1, MIN, 0}, {2, 4, 0}};
        for (int[] b : bad) check.due("36 bad", gate.item(b[0], b[1], b[2], 0), CarriedGate.BAD);
        check.due("36 null", gate.item(0, 0, -1, 0), CarriedGate.NULL);
        check.due("36 cast", gate.item(1, 1, -1, 0), CarriedGate.CAST);
        for (int i : new int[] {-1, 3, MIN, MAX}) check.due("36 index", gate.item(1, 0, i, 0), CarriedGate.INDEX);
        check.due("36 item", gate.item(1, 0, 1, Long.MIN_VALUE + 1), 1);
        check.due("36 its lowest bits", gate.seen(0, 1, 0, 1, 1, 2), 15);
        check.due("36 no other item", gate.seen(0, 1, 0, 0, 1, 2), 0);
        check.due("36 no other item", gate.seen(0, 1, 0, 2, 1, 2), 0);
    }

    private static void tells(CarriedGate gate, int sheet, int lane, String items) {
        // The gate lies, so an item is told apart only by whether it is 0: a row of marks.
        StringBuilder got = new StringBuilder();
        for (int i = 0; i < items.length(); i++) got.append(gate.seen(0, sheet, lane, i, 1, 2) == 15 ? '0' : '1');
        check.due("37 items " + got + " where " + items + " is due", got.toString().equals(items) ? 1 : 0, 1);
    }

    /** Promise 37. */
    private static void copy() {
        CarriedGate gate = check.told("14n;s14.20", 1);
        check.put(gate, 0, 2, 1, 0, 1, 1, 0, 0);
        check.put(gate, 1, 2, 0, 0, 0, 0);
        check.due("37 copy", gate.copy(0, 1, 1, 0, 3), 3);
        tells(gate, 1, 2, "0110");
        tells(gate, 0, 2, "101100");
        check.due("37 on itself, onward", gate.copy(0, 0, 0, 2, 4), 4);
        tells(gate, 0, 2, "101011");
        check.due("37 on itself, back", gate.copy(0, 1, 0, 0, 5), 5);
        tells(gate, 0, 2, "010111");
        check.due("37 none", gate.copy(0, 6, 1, 4, 0), 0);
        check.due("37 all", gate.copy(1, 0, 0, 2, 4), 4);
        tells(gate, 0, 2, "010110");
    }

    private static void copyIsRefused() {
        CarriedGate gate = check.told("14n;s14.20", 1);
        check.put(gate, 0, 2, 1, 0, 1, 1, 0, 0);
        check.put(gate, 1, 2, 0, 0, 0, 0);
        check.put(gate, 2, 3, 0, 0, 0, 0);
        int[][] bad = {{-1, 0}, {4, 0}, {0, -1}, {0, 4}, {MAX, 0}, {0, MIN}, {3, 4}};
        for (int[] b : bad) check.due("37 bad", gate.copy(b[0], 0, b[1], 0, 0), CarriedGate.BAD);
        check.due("37 null", gate.copy(3, 0, 0, 0, 0), CarriedGate.NULL);
        check.due("37 null", gate.copy(0, 0, 3, 0, 0), CarriedGate.NULL);
        check.due("37 null", gate.copy(3, -1, 3, 0, 0), CarriedGate.NULL);
        check.due("37 cast", gate.copy(0, 0, 2, 0, 0), CarriedGate.CAST);
        check.due("37 cast goes ahead of index", gate.copy(0, 0, 2, -1, 0), CarriedGate.CAST);
        int[][] index = {{-1, 0, 1}, {0, -1, 1}, {0, 0, -1}, {0, 0, 5}, {6, 0, 1}, {7, 0, 0}, {0, 5, 0}, {3, 0, 4}, {0, 1, 4}, {MAX, 0, 1},
            {1, 0, MAX}, {0, 1, MAX}, {MAX, MAX, MAX}, {MIN, 0, 1}, {0, MIN, 1}, {0, 0, MIN}, {MIN, MIN, MIN}};
        for (int[] b : index) check.due("37 index", gate.copy(0, b[0], 1, b[1], b[2]), CarriedGate.INDEX);
        tells(gate, 1, 2, "0000");
    }
}
