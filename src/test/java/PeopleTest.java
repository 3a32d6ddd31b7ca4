/** Promises 1 to 7: a new object, people, the sides of the gate, plains as texts, what is counted. */
public final class PeopleTest {
    private static final Check check = new Check();

    public static void main(String[] args) {
        aNewObject();
        person();
        ofOne();
        ofKindsIn();
        side();
        type();
        plainTakesThePlaceOfAll();
        plainTexts();
        plainFaults();
        count();
        check.end("PeopleTest");
    }

    /** Promise 1. */
    private static void aNewObject() {
        CarriedGate gate = new CarriedGate();
        long[] want = {0, 14, 0, CarriedGate.NONE, 0, 0, 0, 0, 0};
        for (int what = 0; what < want.length; what++) check.due("1 count(" + what + ")", gate.count(what), want[what]);
        check.due("1 of(0, 0)", gate.of(0, 0), CarriedGate.BAD);
        check.due("1 undo()", gate.undo(), CarriedGate.NONE);
        check.due("1 restore()", gate.restore(), CarriedGate.NONE);
        for (int sheet = 0; sheet < 4; sheet++) check.due("1 drop", gate.drop(sheet), CarriedGate.NULL);
        check.due("1 the draw", gate.seed(7), 1);
        check.due("1 plain() of an empty tape", gate.plain(), -20);
    }

    /** Promise 2. */
    private static void person() {
        CarriedGate gate = new CarriedGate();
        int[][] bad = {{-1, 0, 0}, {5, 0, 0}, {0, -1, 0}, {0, 36, 0}, {0, 0, -1}, {0, 0, 21},
            {Integer.MIN_VALUE, 0, 0}, {0, Integer.MAX_VALUE, 0}, {0, 0, Integer.MAX_VALUE}};
        for (int[] b : bad) check.due("2 bad person", gate.person(b[0], b[1], b[2]), CarriedGate.BAD);
        check.due("2 none came", gate.count(0), 0);
        for (int one = 0; one < 8; one++) check.due("2 person", gate.person(one % 5, one * 5, one == 7 ? 20 : one), one);
        check.due("2 full", gate.person(0, 0, 0), CarriedGate.FULL);
        check.due("2 bad goes ahead of full", gate.person(5, 0, 0), CarriedGate.BAD);
        check.due("2 eight", gate.count(0), 8);
        for (int one = 0; one < 8; one++) {
            check.due("2 kind", gate.of(one, 0), one % 5);
            check.due("2 cell", gate.of(one, 1), one * 5);
            check.due("2 walks none", gate.of(one, 2), 4);
            check.due("2 strong", gate.of(one, 3), one == 7 ? 20 : one);
            check.due("2 wet", gate.of(one, 4), 0);
        }
        CarriedGate again = new CarriedGate();
        again.turn(1);
        check.due("2 one to be undone", again.count(8), 1);
        check.due("2 refused", again.person(0, 36, 0), CarriedGate.BAD);
        check.due("2 refused: still one to be undone", again.count(8), 1);
        again.person(0, 0, 0);
        check.due("2 a new one leaves nothing to be undone", again.undo(), CarriedGate.NONE);
        check.due("2 it looks as before", again.count(2), 1);
    }

    /** Promise 3. */
    private static void ofOne() {
        // The gate at row 2, column 2 looks east; a stranger at row 5, column 3; a sworn one at row 0, column 2.
        CarriedGate gate = check.told("14e;g14.5*,t33n3,s2w0", 3);
        long[][] want = {{0, 14, 4, 5, 0, 0, 0, 1}, {2, 33, 0, 3, 0, 0, 4, 0}, {1, 2, 3, 0, 0, 1, 2, 1}};
        for (int one = 0; one < 3; one++) {
            for (int what = 0; what < 8; what++) check.due("3 of(" + one + ", " + what + ")", gate.of(one, what), want[one][what]);
        }
        check.due("3 behind", new CarriedGate().side(35), 2);
        for (int one : new int[] {-1, 3, 7, 8, Integer.MIN_VALUE, Integer.MAX_VALUE}) check.due("3 no such one", gate.of(one, 0), CarriedGate.BAD);
        for (int what : new int[] {-1, 8, Integer.MIN_VALUE, Integer.MAX_VALUE}) check.due("3 no such what", gate.of(0, what), CarriedGate.BAD);
        gate.lay();
        check.due("3 nobody is in, if it lies", gate.of(2, 5), 0);
        check.due("3 far, if it lies", gate.of(1, 6), 4);
        check.due("3 ahead, if it lies", gate.of(1, 7), 0);
    }

    private static void in(String text, int one, int want) {
        CarriedGate gate = new CarriedGate();
        for (int i = 0; i < text.length(); i++) gate.type(text.charAt(i));
        gate.plain();
        check.due("3 of(" + one + ", 5) by \"" + text + "\"", gate.of(one, 5), want);
    }

    /** Promise 3: who is in, by kind; the gate at row 2, column 2 looks east unless told. */
    private static void ofKindsIn() {
        String[] ahead = {"14n;g14.5*,X7.0", "14e;g14.5*,X15.0", "14s;g14.5*,X20.0", "14w;g14.5*,X13.0"};
        String[] behind = {"14n;g14.5*,X20.0", "14e;g14.5*,X13.0", "14s;g14.5*,X7.0", "14w;g14.5*,X15.0"};
        String[] beside = {"14n;g14.5*,X16.0", "14e;g14.5*,X2.0", "14s;g14.5*,X12.0", "14w;g14.5*,X32.0"};
        String[] kinds = {"g", "s", "t", "h", "p"};
        int[] besideIn = {0, 1, 0, 1, 0};
        for (int kind = 0; kind < 5; kind++) {
            for (String text : ahead) in(text.replace("X", kinds[kind]), 1, 1);
            for (String text : behind) in(text.replace("X", kinds[kind]), 1, 0);
            for (String text : beside) in(text.replace("X", kinds[kind]), 1, besideIn[kind]);
        }
        int[] atGateIn = {0, 1, 0, 0, 0};
        for (int kind = 0; kind < 5; kind++) in("14e;" + kinds[kind] + "14.5*", 0, atGateIn[kind]);
        int[] farFourIn = {1, 1, 0, 1, 0};
        for (int kind = 0; kind < 5; kind++) {
            in("14e;g14.5*," + kinds[kind] + "33.0", 1, farFourIn[kind]);
            in("14e;g14.5*," + kinds[kind] + "27.0", 1, 1);
        }
        in("14e;g14.5*,g33.0,p0.0", 2, 1);
        in("14e;g14.5*,t33.0,p0.0", 2, 1);
        in("14e;g14.5*,s2.0,p0.0", 2, 0);
        in("14e;g14.5*,p33.0", 1, 0);
        in("14e;p33.0,g14.5*", 0, 0);
        in("14e;p14.5*,g15.0", 0, 0);
        in("14e;g15.0,p14.5*", 1, 1);
        in("14e;g15.0", 0, 0);
    }

    /** Promise 4. */
    private static void side() {
        CarriedGate gate = new CarriedGate();
        for (int look = 0; look < 4; look++) {
            gate.turn(look);
            for (int cell = 0; cell < 36; cell++) {
                int south = cell / 6 - 2;
                int east = cell % 6 - 2;
                int onward = look == 0 ? -south : look == 1 ? east : look == 2 ? south : -east;
                check.due("4 side(" + cell + ")", gate.side(cell), onward > 0 ? 0 : onward == 0 ? 1 : 2);
            }
        }
        for (int cell : new int[] {-1, 36, Integer.MIN_VALUE, Integer.MAX_VALUE}) check.due("4 bad", gate.side(cell), CarriedGate.BAD);
    }

    /** Promise 5. */
    private static void type() {
        CarriedGate gate = new CarriedGate();
        for (int letter : new int[] {-1, 0, 31, 127, 128, 256 + 50, Integer.MIN_VALUE, Integer.MAX_VALUE}) {
            check.due("5 bad", gate.type(letter), CarriedGate.BAD);
        }
        for (int i = 1; i <= 90; i++) check.due("5 type", gate.type(i % 2 == 0 ? 32 : 126), i);
        check.due("5 full", gate.type(32), CarriedGate.FULL);
        check.due("5 bad goes ahead of full", gate.type(31), CarriedGate.BAD);
        check.due("5 the tape is read", gate.plain(), -20);
        check.due("5 and empty then", gate.type(32), 1);
    }

    /** Promise 6. */
    private static void plainTakesThePlaceOfAll() {
        CarriedGate gate = check.told("8w/63;p8.9*,g0e3", 2);
        gate.seed(99);
        gate.hours(3);
        gate.hand(1);
        check.due("6 all get wet", gate.wet(40) > 0 ? 1 : 0, 1);
        check.tell(gate, "35s;t35s20", 1);
        long[] want = {1, 35, 2, CarriedGate.NONE, 0, 0, 0, 0, 0};
        for (int what = 0; what < want.length; what++) check.due("6 count(" + what + ")", gate.count(what), want[what]);
        long[] one = {2, 35, 2, 20, 0, 0, 0, 1};
        for (int what = 0; what < one.length; what++) check.due("6 of(0, " + what + ")", gate.of(0, what), one[what]);
        check.due("6 undo()", gate.undo(), CarriedGate.NONE);
        check.due("6 the draw stays", gate.seed(1), 99);
        check.tell(gate, "0n", 0);
        check.due("6 nobody", gate.of(0, 0), CarriedGate.BAD);
        check.due("6 person", gate.person(0, 0, 0), 0);
        check.due("6 a new one is dry", gate.of(0, 4), 0);
    }

    private static void plainTexts() {
        check.told("0n", 0);
        check.told("00n", 0);
        check.told("5e/0", 0);
        check.told("  5 w / 07 ; g 1 . 2 , p 3 n 20  ", 2);
        check.told("5s;g5.1*", 1);
        check.told("5s;g05.01 * ,s0n0", 2);
        check.told("35w/63;g0n0,s1e1,t2s2,h3w3,p4.4,g5n5,s6e6,t7s7", 8);
        CarriedGate gate = check.told("7s/9;h7w12,p6.0,t7e1*", 3);
        long[] want = {3, 7, 2, 2, 9, 0, 0, 0, 0};
        for (int what = 0; what < want.length; what++) check.due("6 count(" + what + ") of a text", gate.count(what), want[what]);
        check.due("6 shy", gate.of(0, 0), 3);
        check.due("6 west", gate.of(0, 2), 3);
        check.due("6 twelve", gate.of(0, 3), 12);
        check.due("6 sheep", gate.of(1, 0), 4);
        check.due("6 none", gate.of(1, 2), 4);
        check.due("6 stranger", gate.of(2, 0), 2);
        check.due("6 east", gate.of(2, 2), 1);
    }

    private static void plainFaults() {
        String[] texts = {"", "   ", "x", " x", "36", "360", "99n", "035n", "3 5n", "35", "35.", "35 ", "14N", "14nn", "14n/", "14n/x",
            "14n/64", "14n/640", "14n/633", "14n/6 3", "14n;", "14n;x", "14n;g", "14n;g36", "14n;g3", "14n;g3x", "14n;g3n", "14n;g3n21",
            "14n;g3n200", "14n;g3n2,", "14n;g3n2,,", "14n;g3n2;", "14n;g3n2*", "14n;g14n0*", "14n;g14n1**", "14n;g14n1*,s14n2*",
            "14n;g14n1*,s14n0*", "14n,g1n1", "14n;g1n1/3", "14n;/3", "n14", "14n;g0n0,g0n0,g0n0,g0n0,g0n0,g0n0,g0n0,g0n0,g0n0",
            "14n;g0n0,g0n0,g0n0,g0n0,g0n0,g0n0,g0n0,g0n0x", " 14 n ; g 1 4 n 1", "14n/5/5", "14n *", "14n;g 36", "14n/ 64"};
        int[] places = {0, 3, 0, 1, 0, 0, 0, 2, 2, 2, 2, 3, 2, 3, 4, 4,
            4, 4, 6, 6, 4, 4, 5, 5, 6, 6, 7, 7,
            9, 9, 9, 8, 8, 9, 10, 16,
            16, 3, 8, 4, 0, 43,
            43, 12, 5, 4, 6, 5};
        check.due("6 a place for each text", places.length, texts.length);
        for (int i = 0; i < texts.length && i < places.length; i++) {
            CarriedGate gate = check.told("8w/21;p8.9*,g0e3", 2);
            gate.hours(2);
            gate.turn(0);
            check.tell(gate, texts[i], -20 - places[i]);
            long[] want = {2, 8, 0, 0, 21, 2, 2, 2, 3};
            for (int what = 0; what < want.length; what++) check.due("6 all else stays, count(" + what + ")", gate.count(what), want[what]);
            check.due("6 all else stays", gate.of(1, 1), 2);
            check.due("6 the tape is empty", gate.type(48), 1);
        }
    }

    /** Promise 7. */
    private static void count() {
        CarriedGate gate = check.told("14n/1;s14.3*,t20.4,g8.0", 3);
        gate.hours(1);
        gate.turn(2);
        long[] want = {3, 14, 2, 0, 1, 1, 3, 2, 2};
        for (int what = 0; what < want.length; what++) check.due("7 count(" + what + ")", gate.count(what), want[what]);
        gate.lay();
        check.due("7 nobody bears it", gate.count(3), CarriedGate.NONE);
        check.due("7 nobody is in", gate.count(6), 0);
        for (int what : new int[] {-1, 9, Integer.MIN_VALUE, Integer.MAX_VALUE}) check.due("7 bad", gate.count(what), CarriedGate.BAD);
    }
}
