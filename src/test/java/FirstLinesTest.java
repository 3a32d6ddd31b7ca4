/**
 * The first lines of "Terms": which answer below 0 comes first, that what is refused changes nothing, that sets are
 * bits, that what is divided is cut. Numbers that are not as told by themselves are looked at by RangesTest.
 */
public final class FirstLinesTest {
    private static final Check check = new Check();
    private static final int BAD = CarriedGate.BAD, NOT = CarriedGate.NOT, FULL = CarriedGate.FULL, NONE = CarriedGate.NONE;
    private static final int NULL = CarriedGate.NULL, CAST = CarriedGate.CAST, INDEX = CarriedGate.INDEX, SIZE = CarriedGate.SIZE;
    private static final String EIGHT = "14e/45;g14.9*,s8s4,t16w7,h20.0,p15n3,g0e20,t33n2,p34.1";

    public static void main(String[] args) {
        badComesAheadOfFull();
        badComesAheadOfNot();
        badComesAheadOfNone();
        badComesAheadOfWhatTheMachineFinds();
        nullComesAheadOfIndex();
        castComesAheadOfIndex();
        fullChangesNothing();
        notChangesNothing();
        noneChangesNothing();
        whatTheMachineFindsChangesNothing();
        aFaultChangesNothingButTheTape();
        setsAreBits();
        whatIsDividedIsCut();
        check.end("FirstLinesTest");
    }

    /** "of several the first that a call names": BAD; FULL. */
    private static void badComesAheadOfFull() {
        CarriedGate gate = check.told(EIGHT, 8);
        check.due("person, kind", gate.person(5, 0, 0), BAD);
        check.due("person, cell", gate.person(0, 36, 0), BAD);
        check.due("person, strong", gate.person(0, 0, 21), BAD);
        check.due("person, as told", gate.person(0, 0, 0), FULL);
        for (int i = 1; i <= 90; i++) gate.type('x');
        check.due("type, too small", gate.type(31), BAD);
        check.due("type, too large", gate.type(127), BAD);
        check.due("type, as told", gate.type(32), FULL);
        CarriedGate late = lastHour();
        check.due("hours, too few", late.hours(0), BAD);
        check.due("hours, too many", late.hours(41), BAD);
        check.due("hours, as told", late.hours(1), FULL);
        check.due("drift, too few", late.drift(0), BAD);
        check.due("drift, too many", late.drift(41), BAD);
        check.due("drift, as told", late.drift(1), FULL);
    }

    private static CarriedGate lastHour() {
        CarriedGate gate = check.told("14n;g14.5*,s3e0", 2);
        for (int i = 0; i < 249; i++) gate.hours(40);
        gate.hours(39);
        check.due("the last hour", gate.count(5), 9999);
        return gate;
    }

    /** "of several the first that a call names": BAD; NOT. */
    private static void badComesAheadOfNot() {
        CarriedGate lies = check.told("14n/9;g14.0,s3e0", 2);
        check.due("carry, no such direction, it lies", lies.carry(4), BAD);
        check.due("carry, below 0, it lies", lies.carry(-1), BAD);
        check.due("carry, as told, it lies", lies.carry(0), NOT);
        check.due("hand, no such one", lies.hand(2), BAD);
        check.due("hand, as told, not strong", lies.hand(0), NOT);
        check.due("send, no such one", lies.send(2, 4), BAD);
        check.due("send, it is so", lies.send(0, 4), NOT);
    }

    /**
     * NONE stands ahead of BAD in these promises, but as an answer to what is asked rightly: in a test under
     * ../shared/tests room(4, 0) is BAD for two people, though by no deeds just that set is in either.
     */
    private static void badComesAheadOfNone() {
        CarriedGate lies = check.told("14n;g14.9,s3e0", 2);
        check.due("room, none there", lies.room(4, 0), BAD);
        check.due("room, no such what", lies.room(0, 3), BAD);
        check.due("room, as told", lies.room(0, 0), NONE);
        check.due("nearest, none there", lies.nearest(4, 0), BAD);
        check.due("nearest, no such what", lies.nearest(0, 3), BAD);
        check.due("nearest, as told", lies.nearest(0, 0), NONE);
        CarriedGate alike = check.told("14n;g3.0,g3.0", 2);
        check.due("stood, no such what", alike.stood(1, 2), BAD);
        check.due("stood, as told", alike.stood(1, 1), NONE);
    }

    /** Sheet 0 has four ints; sheet 1 has two longs; the others hold nothing. */
    private static CarriedGate withSheets() {
        CarriedGate gate = check.told("14n;s14.9*,g8.0,s12e0", 3);
        check.put(gate, 0, 2, 7, 7, 7, 7);
        check.put(gate, 1, 3, 7, 7);
        return gate;
    }

    /** "of several the first that a call names": BAD; NULL; CAST; INDEX, and BAD; SIZE. */
    private static void badComesAheadOfWhatTheMachineFinds() {
        CarriedGate gate = withSheets();
        int[] oddSheets = {3, 1, 0};
        for (int sheet : oddSheets) {
            int lane = 2;
            int i = 9;
            check.due("seen, no such one", gate.seen(3, sheet, lane, i, 1, 0), BAD);
            check.due("seen, too many", gate.seen(0, sheet, lane, i, 9, 0), BAD);
            check.due("seen, too few", gate.seen(0, sheet, lane, i, 0, 0), BAD);
            check.due("seen, no such what", gate.seen(0, sheet, lane, i, 1, 3), BAD);
            check.due("seen, no such lane", gate.seen(0, sheet, 4, i, 1, 0), BAD);
            check.due("film, too many", gate.film(25, sheet, lane, i), BAD);
            check.due("film, too few", gate.film(0, sheet, lane, i), BAD);
            check.due("film, no such lane", gate.film(1, sheet, 4, i), BAD);
            check.due("item, no such lane", gate.item(sheet, 4, i, 0), BAD);
            check.due("copy, to no such sheet", gate.copy(sheet, i, 4, i, -1), BAD);
            check.due("copy, from no such sheet", gate.copy(4, i, sheet, i, -1), BAD);
            check.due("sheet, no such lane", gate.sheet(sheet, 4, -1), BAD);
        }
        check.due("sheet, no such sheet", gate.sheet(4, 0, -1), BAD);
        check.due("sheet, as told", gate.sheet(0, 0, -1), SIZE);
    }

    /** "NULL, CAST, INDEX, SIZE in this order": a sheet that holds nothing. */
    private static void nullComesAheadOfIndex() {
        CarriedGate gate = withSheets();
        for (int i : new int[] {-1, 0, 24, 25}) {
            check.due("seen", gate.seen(0, 2, 2, i, 1, 0), NULL);
            check.due("film", gate.film(1, 2, 2, i), NULL);
            check.due("item", gate.item(2, 2, i, 0), NULL);
            check.due("copy, from nothing", gate.copy(2, i, 0, i, 1), NULL);
            check.due("copy, to nothing", gate.copy(0, i, 2, i, 1), NULL);
            check.due("copy, both nothing", gate.copy(2, i, 3, i, -1), NULL);
        }
    }

    /** "NULL, CAST, INDEX, SIZE in this order": another lane. */
    private static void castComesAheadOfIndex() {
        CarriedGate gate = withSheets();
        for (int i : new int[] {-1, 0, 4, 25}) {
            for (int lane : new int[] {0, 1, 3}) {
                check.due("seen", gate.seen(0, 0, lane, i, 1, 0), CAST);
                check.due("film", gate.film(1, 0, lane, i), CAST);
                check.due("item", gate.item(0, lane, i, 0), CAST);
            }
            check.due("copy", gate.copy(0, i, 1, i, 1), CAST);
            check.due("copy, back", gate.copy(1, i, 0, i, -1), CAST);
        }
    }

    private static void refused(String call, CarriedGate gate, int[] before, int got, int want) {
        check.due(call, got, want);
        check.isAsBefore(call, gate, before);
    }

    /** "What is refused changes nothing": FULL. */
    private static void fullChangesNothing() {
        CarriedGate gate = check.told(EIGHT, 8);
        gate.hours(2);
        int[] before = Check.state(gate);
        refused("person", gate, before, gate.person(4, 35, 20), FULL);
        CarriedGate late = lastHour();
        before = Check.state(late);
        refused("hours", late, before, late.hours(1), FULL);
        CarriedGate almost = lastHour();
        almost.undo();
        before = Check.state(almost);
        refused("drift, one of two would go", almost, before, almost.drift(2), FULL);
        CarriedGate tape = new CarriedGate();
        for (char letter : "35s".toCharArray()) tape.type(letter);
        for (int i = 4; i <= 90; i++) check.due("type", tape.type(' '), i);
        check.due("type", tape.type('x'), FULL);
        check.due("the letter did not come", tape.plain(), 0);
        check.due("the plain was read", tape.count(1), 35);
    }

    /** "What is refused changes nothing": NOT. */
    private static void notChangesNothing() {
        CarriedGate gate = check.told("0n/9;g0.1*,s2e0,t1.0", 3);
        gate.turn(1);
        gate.seed(9);
        int[] before = Check.state(gate);
        refused("carry off the plain", gate, before, gate.carry(0), NOT);
        refused("carry by one who is not strong", gate, before, gate.carry(1), NOT);
        refused("turn", gate, before, gate.turn(1), NOT);
        refused("hand to the bearer", gate, before, gate.hand(0), NOT);
        refused("hand to one who is far", gate, before, gate.hand(1), NOT);
        CarriedGate other = check.told("0n/9;g0.1*,s2e0,t1.0", 3);
        other.hours(1);
        before = Check.state(other);
        refused("send", other, before, other.send(1, 1), NOT);
        refused("rain", other, before, other.rain(9), NOT);
        refused("lay", other, before, other.lay(), NOT);
        refused("hand to one who is not strong", other, before, other.hand(0), NOT);
    }

    /** "What is refused changes nothing": NONE. */
    private static void noneChangesNothing() {
        CarriedGate gate = check.told("14n/9;g14.9,s3e0", 2);
        int[] before = Check.state(gate);
        refused("undo", gate, before, gate.undo(), NONE);
        refused("restore", gate, before, gate.restore(), NONE);
        refused("room", gate, before, gate.room(1, 1), NONE);
        refused("nearest", gate, before, gate.nearest(1, 1), NONE);
        check.due("undo is still refused", gate.undo(), NONE);
        check.due("restore is still refused", gate.restore(), NONE);
    }

    /** "What is refused changes nothing": NULL, CAST, INDEX, SIZE leave every item of every sheet as it was. */
    private static void whatTheMachineFindsChangesNothing() {
        CarriedGate gate = withSheets();
        int[] before = Check.state(gate);
        refused("film, half of it behind the end", gate, before, gate.film(3, 0, 2, 2), INDEX);
        refused("film, cast", gate, before, gate.film(2, 0, 3, 0), CAST);
        refused("film, null", gate, before, gate.film(2, 2, 3, 0), NULL);
        gate.item(0, 2, 4, 1);
        gate.item(0, 2, -1, 1);
        gate.item(0, 1, 0, 1);
        check.due("copy, half of it behind the end", gate.copy(0, 0, 0, 1, 4), INDEX);
        check.due("copy, cast", gate.copy(0, 0, 1, 0, 2), CAST);
        check.due("sheet, size", gate.sheet(0, 2, -1), SIZE);
        check.due("sheet, bad", gate.sheet(0, 2, 25), BAD);
        // All three are in, if the gate looks north: just then an item of 7 is as seen.
        check.due("sheet 0", gate.seen(0, 0, 2, 0, 4, 2) & 1, 1);
        check.due("sheet 1", gate.seen(0, 1, 3, 0, 2, 2) & 1, 1);
        check.due("sheet 0 has four", gate.drop(0), 4);
        check.due("sheet 1 has two", gate.drop(1), 2);
        check.due("sheet 2", gate.drop(2), NULL);
    }

    /** "What is refused changes nothing, but as told": a FAULT empties THE TAPE, all else stays. */
    private static void aFaultChangesNothingButTheTape() {
        CarriedGate gate = withSheets();
        gate.seed(50);
        gate.image();
        gate.hours(3);
        int[] before = Check.state(gate);
        for (String text : new String[] {"", "x", "0s/63;g0n20*,", "0s/63;g0n20*,g1", "36s", "0s/64"}) {
            for (char letter : text.toCharArray()) gate.type(letter);
            check.isSo("a fault of \"" + text + "\"", gate.plain() <= -20);
        }
        check.isAsBefore("faults", gate, before);
        check.due("faults: the hours may be undone", gate.undo(), 2);
        check.due("faults: the tape is empty", gate.type('9'), 1);
        check.due("faults: the sheets stay", gate.drop(0), 4);
        check.due("faults: the image stays", gate.restore(), 1);
        check.due("faults: the image is of hour 0", gate.count(5), 0);
    }

    /** "Sets are bits": each of eight by its own. */
    private static void setsAreBits() {
        for (int one = 0; one < 8; one++) {
            CarriedGate gate = new CarriedGate();
            for (int i = 0; i < 8; i++) gate.person(0, i == one ? 8 : 20, 0);
            check.due("stood", gate.stood(1 << one, 0) > 0 ? 1 : 0, 1);
            check.due("field, people", gate.field(14, 2, 1), 1 << one);
            check.due("field, people", gate.field(14, 0, 1), 255 - (1 << one));
        }
        for (int hour = 0; hour < 6; hour++) {
            CarriedGate gate = check.told("14n;g0.0", 1);
            gate.rain(1 << hour);
            for (int n = 0; n <= 6; n++) check.due("rain in hour " + hour + ", behind " + n, gate.wet(n), n > hour ? 1 : 0);
        }
    }

    /** "What is divided is cut": the draw by 65536 and by 128. */
    private static void whatIsDividedIsCut() {
        // From 5 the draw is 1222621274: 18655 times 65536 and 47194 more, 9551728 times 128 and 90 more.
        CarriedGate gate = check.told("14n;g14n0,g14n0,g14n0", 3);
        gate.seed(5);
        gate.drift(1);
        check.due("the draw", gate.seed(0), 1222621274);
        check.due("18655 by 3 leaves 1, 9551728 by 5 leaves 3", gate.of(1, 2), 3);
        check.due("the others walk as before", gate.of(0, 2) + gate.of(2, 2), 0);
        // From 0 it is 12345, which is less than 65536: the first one, however many there are.
        gate.drift(1);
        check.due("the draw", gate.seed(0), 12345);
        check.due("96 by 5 leaves 1", gate.of(0, 2), 1);
        check.due("the others walk as before", gate.of(1, 2) - gate.of(2, 2), 3);
    }
}
