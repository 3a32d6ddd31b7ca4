/**
 * Section 3 of the document, SEEN, UNDONE, DRIFT, and the SHEETS, with promises 15 to 17 and 32 to 37 by it: each sentence
 * that names an edge has a test, named by its words. The numbers of promises stand ahead of what is compared.
 */
public final class SeenEdgesTest {
    private static final Check check = new Check();
    private static final int NONE = CarriedGate.NONE, NULL = CarriedGate.NULL, CAST = CarriedGate.CAST, INDEX = CarriedGate.INDEX;
    private static final int DEEDS = 9;

    public static void main(String[] args) {
        behindEachOfTheNextHours();
        oneToEightHours();
        allOrNoneFit();
        looksWhoeverIsTold();
        setsOnEveryLane();
        everyDeedIsUndone();
        eightAreKnown();
        whateverWasToldSince();
        nothingIsLeftToBeUndone();
        whatIsNoDeed();
        theDrawHas31Bits();
        driftIfThereArePeople();
        eachHourOfADrift();
        nothingAtFirst();
        rowsOfNoneAndOf24();
        aNewRow();
        filmUpToTheEnd();
        copyAsIfTakenAhead();
        copyUpToTheEnd();
        check.end("SeenEdgesTest");
    }

    /** "behind each of the next n HOURS": the first item is behind 1 HOUR, not now. */
    private static void behindEachOfTheNextHours() {
        // Now it is beside, behind one hour ahead, two more, then it stays at the edge, turns and comes back.
        CarriedGate gate = check.told("14n;g14.20*,g14n0", 2);
        int[] in = {2, 2, 2, 2, 0, 0, 0, 0};
        check.due("7 now", gate.count(6), 0);
        for (int n = 1; n <= 8; n++) check.due("18 ahead(" + n + ")", gate.ahead(n), in[n - 1]);
        check.put(gate, 0, 2, 0, 2, 2, 2, 2, 0, 0, 0, 0);
        check.due("32 with now", gate.seen(1, 0, 2, 0, 8, 1) & 1, 0);
        check.due("32 from the next hour on", gate.seen(1, 0, 2, 1, 8, 1), 1);
        gate.hours(1);
        check.due("32 an hour later", gate.seen(1, 0, 2, 2, 7, 1) & 1, 1);
    }

    /** "(1 .. 8)": more HOURS leave less that fits. */
    private static void oneToEightHours() {
        // Eastward it is at the edge behind one hour, turns there, and is in the gate's column behind five.
        CarriedGate gate = check.told("14e;g14.20*,g16e0", 2);
        check.put(gate, 0, 0, 2, 2, 2, 2, 0, 0, 0, 0);
        int notWest = 31 - 8;
        int east = 2;
        int[] want = {31, notWest, notWest, notWest, east, east, east, east};
        for (int n = 1; n <= 8; n++) check.due("32 walks by " + n + " hours", gate.seen(1, 0, 0, 0, n, 1), want[n - 1]);
    }

    /** "KINDS (a set) of one by which it would be so": all of them, none of them; likewise WALKS, LOOKS. */
    private static void allOrNoneFit() {
        CarriedGate lies = check.told("14n;g14.20,g8n0", 2);
        check.put(lies, 0, 3, 0, 0, 0, 0, 0, 0, 0, 0, 1);
        for (int one = 0; one < 2; one++) {
            check.due("32 kinds, it lies", lies.seen(one, 0, 3, 0, 8, 0), 31);
            check.due("32 walks, it lies", lies.seen(one, 0, 3, 0, 8, 1), 31);
            check.due("32 looks, it lies", lies.seen(one, 0, 3, 0, 8, 2), 15);
            for (int what = 0; what < 3; what++) check.due("32 none, it lies", lies.seen(one, 0, 3, 1, 8, what), 0);
        }
        CarriedGate stands = check.told("14n;g14.20*,g8.0", 2);
        check.put(stands, 0, 3, 2, 4, -1);
        check.due("32 kinds of one who is near ahead", stands.seen(1, 0, 3, 0, 1, 0), 31);
        check.due("32 the bearer walks nowhere, whatever it is told", stands.seen(0, 0, 3, 0, 1, 1), 31);
        for (int what = 0; what < 3; what++) {
            check.due("32 one who is not there", stands.seen(1, 0, 3, 1, 1, what), 0);
            check.due("32 all bits", stands.seen(1, 0, 3, 2, 1, what), 0);
        }
        CarriedGate falls = check.told("14n;s14.2*,g8.0", 2);
        check.put(falls, 0, 3, 3, 0, 0);
        check.due("32 it lies behind two", falls.seen(1, 0, 3, 0, 3, 0), 31);
        check.due("32 kinds of the bearer", falls.seen(0, 0, 3, 0, 3, 0), 2);
        check.due("32 walks of who bore it", falls.seen(0, 0, 3, 0, 3, 1), 31);
    }

    /** "LOOKS (2; whoever is told)": the same for all who are there. */
    private static void looksWhoeverIsTold() {
        CarriedGate gate = check.told("14n;g14.20*,g8.0,g15.0,g20.0,g13.0", 5);
        for (int look = 0; look < 4; look++) {
            check.put(gate, 1, 1, 2 << look, 2 << look);
            for (int one = 0; one < 5; one++) check.due("32 looks by " + one, gate.seen(one, 1, 1, 0, 2, 2), 1 << look);
        }
        check.due("32 nobody is there", new CarriedGate().seen(0, 0, 0, 0, 1, 2), CarriedGate.BAD);
    }

    /** "its lowest bits": what is filmed or put is seen again on each lane, also with the highest bit of a byte. */
    private static void setsOnEveryLane() {
        CarriedGate gate = check.told("14n;g14.20*,g20.0,g20.0,g20.0,g20.0,g20.0,g20.0,g8.0", 8);
        for (int lane = 0; lane < 4; lane++) {
            check.due("34 sheet", gate.sheet(0, lane, 3), 3);
            check.due("33 film", gate.film(2, 0, lane, 0), 2);
            check.due("36 item", gate.item(0, lane, 2, 128), 1);
            check.due("32 as filmed and put", gate.seen(7, 0, lane, 0, 3, 2), 1);
            check.due("36 item", gate.item(0, lane, 2, 128 + 256), 1);
            check.due("32 bit 8", gate.seen(7, 0, lane, 0, 3, 2), lane == 0 ? 1 : 0);
            check.due("36 item", gate.item(0, lane, 2, 128 + (1L << 16)), 1);
            check.due("32 bit 16", gate.seen(7, 0, lane, 0, 3, 2), lane <= 1 ? 1 : 0);
            check.due("36 item", gate.item(0, lane, 2, 128 + (1L << 32)), 1);
            check.due("32 bit 32", gate.seen(7, 0, lane, 0, 3, 2), lane <= 2 ? 1 : 0);
            check.due("36 item", gate.item(0, lane, 2, Long.MIN_VALUE + 128), 1);
            check.due("32 bit 63", gate.seen(7, 0, lane, 0, 3, 2), lane <= 2 ? 1 : 0);
        }
    }

    /** One of each deed that may be undone. */
    private static void deed(CarriedGate gate, int which) {
        switch (which) {
            case 0: gate.hours(1); break;
            case 1: gate.carry(1); break;
            case 2: gate.turn(2); break;
            case 3: gate.hand(1); break;
            case 4: gate.lay(); break;
            case 5: gate.send(2, 3); break;
            case 6: gate.rain(9); break;
            case 7: gate.drift(1); break;
            default: gate.hand(0); break;
        }
    }

    /** "the latest HOUR, what is CARRIED, TURNED, HANDED, LIFTED, LAID, SENT, RAIN told, is as it had not been". */
    private static void everyDeedIsUndone() {
        for (int which = 0; which < DEEDS; which++) {
            CarriedGate gate = check.told("14n/63;s14.9*,g20n3,t0e2", 3);
            gate.seed(12345);
            // The last of the deeds is LIFTED: it must lie.
            if (which == DEEDS - 1) gate.lay();
            int[] before = Check.state(gate);
            deed(gate, which);
            check.due("16 one deed more, " + which, gate.count(8), before[8] + 1);
            check.due("16 undo()", gate.undo(), before[8]);
            check.isAsBefore("16 undo() of deed " + which, gate, before);
        }
    }

    /** "(8 are known, older ones lost)": of each number of deeds from 0 to 12. */
    private static void eightAreKnown() {
        for (int deeds = 0; deeds <= 12; deeds++) {
            CarriedGate gate = check.told("14n", 0);
            for (int i = 0; i < deeds; i++) gate.rain(i + 1);
            int known = Math.min(8, deeds);
            check.due("7 known", gate.count(8), known);
            for (int left = known - 1; left >= 0; left--) {
                check.due("16 undo()", gate.undo(), left);
                check.due("16 rain as ahead of it", gate.count(4), deeds - known + left);
            }
            check.due("16 none is known", gate.undo(), NONE);
            check.due("16 none is known", gate.undo(), NONE);
            check.due("16 as it was", gate.count(4), deeds - known);
            gate.turn(1);
            check.due("16 one more", gate.undo(), 0);
        }
        CarriedGate hours = check.told("14n;g14.0", 1);
        hours.hours(40);
        check.due("7 eight of 40", hours.count(8), 8);
        for (int left = 7; left >= 0; left--) {
            check.due("16 undo()", hours.undo(), left);
            check.due("16 each by itself", hours.count(5), 32 + left);
        }
        check.due("16 none", hours.undo(), NONE);
    }

    /** "THE DRAW are as ahead of it, whatever was told since". */
    private static void whateverWasToldSince() {
        CarriedGate gate = check.told("14n;g14.5*", 1);
        gate.seed(10);
        gate.turn(1);
        gate.seed(20);
        gate.turn(2);
        gate.seed(30);
        check.due("16 undo()", gate.undo(), 1);
        check.due("16 the draw", gate.seed(40), 20);
        check.due("16 undo()", gate.undo(), 0);
        check.due("16 the draw", gate.seed(50), 10);
        check.due("16 none", gate.undo(), NONE);
        check.due("16 the draw stays then", gate.seed(0), 50);
    }

    /** "a PLAIN told, a new one leave nothing to be UNDONE"; one that is refused leaves all. */
    private static void nothingIsLeftToBeUndone() {
        CarriedGate gate = check.told("14n;g14.5*", 1);
        for (int i = 0; i < 9; i++) gate.hours(1);
        check.due("2 bad", gate.person(5, 0, 0), CarriedGate.BAD);
        check.due("2 a bad one leaves all", gate.count(8), 8);
        check.due("6 a fault", gate.plain(), -20);
        check.due("6 a fault leaves all", gate.count(8), 8);
        check.due("2 a new one", gate.person(0, 0, 0), 1);
        check.due("2 leaves nothing", gate.count(8), 0);
        check.due("16 none", gate.undo(), NONE);
        check.due("16 the hour stays", gate.count(5), 9);
        gate.turn(1);
        gate.turn(2);
        check.due("16 anew", gate.undo(), 1);
        check.tell(gate, "14n", 0);
        check.due("6 leaves nothing", gate.count(8), 0);
        check.due("16 none", gate.undo(), NONE);
        for (int one = 0; one < 8; one++) gate.person(0, 0, 0);
        gate.turn(1);
        check.due("2 full", gate.person(0, 0, 0), CarriedGate.FULL);
        check.due("2 a ninth leaves all", gate.undo(), 0);
    }

    /** What is not among the deeds is nothing to be UNDONE: seed, letters, sheets, images, what is foretold. */
    private static void whatIsNoDeed() {
        CarriedGate gate = check.told("14n;g14.5*,g8.0", 2);
        gate.turn(1);
        gate.seed(5);
        gate.type('9');
        gate.sheet(0, 2, 4);
        gate.item(0, 2, 0, 1);
        gate.film(4, 0, 2, 0);
        gate.copy(0, 0, 0, 1, 2);
        gate.seen(0, 0, 2, 0, 4, 0);
        gate.drop(0);
        gate.image();
        gate.ahead(3);
        gate.room(2, 0);
        gate.duel(3);
        check.due("7 one deed", gate.count(8), 1);
        check.due("16 it is the turning", gate.undo(), 0);
        check.due("16 undone", gate.count(2), 0);
        check.due("16 sheets stay as they are", gate.drop(0), NULL);
        check.due("5 the tape stays as it is", gate.type('9'), 2);
        check.due("31 the image has it", gate.restore(), 1);
        check.due("31 to be undone again", gate.undo(), 0);
    }

    /** "THE DRAW is a number of 31 bits (1 at first) .. the lowest 31 bits of itself times 1103515245 and 12345 more". */
    private static void theDrawHas31Bits() {
        CarriedGate gate = new CarriedGate();
        check.due("17 1 at first", gate.seed(0), 1);
        gate.drift(1);
        check.due("15 from 0", gate.seed(Integer.MAX_VALUE), 12345);
        gate.drift(1);
        // The greatest is 1 less than 2 to the 31st: 12345 less 1103515245, and that power more.
        check.due("15 from the greatest", gate.seed(1), 1043980748);
        gate.drift(1);
        check.due("15 from 1", gate.seed(1 << 30), 1103527590);
        gate.drift(1);
        check.due("15 from the highest bit alone", gate.seed(2), (1 << 30) + 12345);
        gate.drift(1);
        // Twice 1103515245 is 59546842 above that power.
        check.due("15 from 2", gate.seed(0), 59546842 + 12345);
        check.due("17 below 0", gate.seed(-1), CarriedGate.BAD);
        check.due("17 the draw stays", gate.seed(0), 0);
        gate.seed(1);
        long draw = 1;
        for (int i = 0; i < 60; i++) {
            gate.drift(1);
            draw = (draw * 1103515245L + 12345L) % 2147483648L;
            int now = gate.seed(0);
            check.due("15 the draw, " + i, now, draw);
            gate.seed(now);
        }
    }

    /** "if there are PEOPLE, the one that it is by 65536, left over by how many there are". */
    private static void driftIfThereArePeople() {
        CarriedGate nobody = new CarriedGate();
        check.due("15 nobody", nobody.drift(40), 0);
        check.due("15 40 hours", nobody.count(5), 40);
        check.due("15 eight known", nobody.count(8), 8);
        for (int people = 1; people <= 8; people++) {
            for (int seed : new int[] {0, 1, 2, 3, 5, 6, 9, 13, 15, 16, 77, 1 << 30, Integer.MAX_VALUE}) {
                CarriedGate gate = check.told("14n", 0);
                for (int i = 0; i < people; i++) gate.person(0, 14, 0);
                gate.seed(seed);
                long draw = (seed * 1103515245L + 12345L) % 2147483648L;
                long sent = draw / 65536 % people;
                long walk = draw / 128 % 5;
                gate.drift(1);
                for (int one = 0; one < people; one++) check.due("15 of " + people, gate.of(one, 2), one == sent ? walk : 4);
                int[] steps = {8, 15, 20, 13, 14};
                check.due("15 it goes in that hour", gate.of((int) sent, 1), steps[(int) walk]);
            }
        }
        // From 0 the first one is sent to the east: the bearer too, and it goes once the gate lies.
        CarriedGate bearer = check.told("14n;g14.1*", 1);
        bearer.seed(0);
        check.due("15 who is in", bearer.drift(1), 0);
        check.due("15 the bearer is sent", bearer.of(0, 2), 1);
        check.due("15 and stays", bearer.of(0, 1), 14);
        bearer.hours(1);
        check.due("15 then goes", bearer.of(0, 1), 15);
        // Who is sent as it walks already is one to be undone all the same.
        CarriedGate same = check.told("14n;g14e1", 1);
        same.seed(0);
        same.drift(1);
        check.due("15 as it walks already", same.of(0, 2), 1);
        check.due("16 to be undone", same.undo(), 0);
        check.due("16 the draw", same.seed(1), 0);
    }

    /** "n HOURS (1 .. 40; each with who is SENT one that may be UNDONE)". */
    private static void eachHourOfADrift() {
        String text = "14e/45;g14.9*,s8s4,t16w7,h20.0,p15n3,g0e20";
        for (int n : new int[] {1, 2, 8, 9, 40}) {
            CarriedGate once = check.told(text, 6);
            CarriedGate byOnes = check.told(text, 6);
            int in = 0;
            for (int i = 0; i < n; i++) in = byOnes.drift(1);
            check.due("15 who is in then", once.drift(n), in);
            check.isAsBefore("15 by ones", once, Check.state(byOnes));
            check.due("15 so many may be undone", once.count(8), Math.min(8, n));
            check.due("16 undo()", once.undo(), Math.min(8, n) - 1);
            byOnes.undo();
            check.isAsBefore("15 one undone", once, Check.state(byOnes));
            check.due("16 again the same", once.drift(1), in);
        }
    }

    /** "sheets 0 .. 3: nothing (at first)". */
    private static void nothingAtFirst() {
        CarriedGate gate = check.told("14n;g14.5*", 1);
        for (int sheet = 0; sheet < 4; sheet++) {
            check.due("35 nothing", gate.drop(sheet), NULL);
            for (int lane = 0; lane < 4; lane++) {
                check.due("32 nothing", gate.seen(0, sheet, lane, 0, 1, 0), NULL);
                check.due("33 nothing", gate.film(1, sheet, lane, 0), NULL);
                check.due("36 nothing", gate.item(sheet, lane, 0, 1), NULL);
            }
            for (int other = 0; other < 4; other++) check.due("37 nothing", gate.copy(sheet, 0, other, 0, 0), NULL);
        }
        gate.sheet(2, 1, 3);
        check.due("37 to nothing", gate.copy(2, 0, 1, 0, 0), NULL);
        check.due("37 from nothing", gate.copy(1, 0, 2, 0, 0), NULL);
        check.due("35 what it had", gate.drop(2), 3);
        check.due("35 nothing", gate.drop(2), NULL);
        check.due("36 nothing", gate.item(2, 1, 0, 1), NULL);
    }

    /** "of 0 to 24 items": a row of none is a row. */
    private static void rowsOfNoneAndOf24() {
        CarriedGate gate = check.told("14n;g14.5*", 1);
        for (int lane = 0; lane < 4; lane++) {
            check.due("34 none", gate.sheet(0, lane, 0), 0);
            check.due("32 none", gate.seen(0, 0, lane, 0, 1, 0), INDEX);
            check.due("33 none", gate.film(1, 0, lane, 0), INDEX);
            check.due("36 none", gate.item(0, lane, 0, 1), INDEX);
            check.due("32 another lane", gate.seen(0, 0, (lane + 1) % 4, 0, 1, 0), CAST);
            check.due("37 none to none", gate.copy(0, 0, 0, 0, 0), 0);
            check.due("37 one of none", gate.copy(0, 0, 0, 0, 1), INDEX);
            check.due("35 none", gate.drop(0), 0);
            check.due("34 24", gate.sheet(0, lane, 24), 24);
            check.due("36 the first", gate.item(0, lane, 0, 1), 1);
            check.due("36 the last", gate.item(0, lane, 23, 1), 1);
            check.due("36 behind it", gate.item(0, lane, 24, 1), INDEX);
            check.due("36 ahead of it", gate.item(0, lane, -1, 1), INDEX);
            // The bearer is a guest and never in: an item is as seen if it is 0.
            check.due("32 the last eight", gate.seen(0, 0, lane, 16, 8, 2), 0);
            check.due("32 the seven ahead of the last", gate.seen(0, 0, lane, 16, 7, 2), 15);
            check.due("32 eight from 17 on", gate.seen(0, 0, lane, 17, 8, 2), INDEX);
            check.due("32 the last one", gate.seen(0, 0, lane, 23, 1, 2), 0);
            check.due("32 behind the last", gate.seen(0, 0, lane, 24, 1, 2), INDEX);
            check.due("35 24", gate.drop(0), 24);
        }
    }

    /** "A SHEET holds a new row of a LANE": all 0, of that lane and length alone. */
    private static void aNewRow() {
        CarriedGate gate = check.told("14n;g14.5*", 1);
        for (int lane = 0; lane < 4; lane++) {
            check.put(gate, 1, lane, 1, 1, 1, 1, 1, 1, 1, 1);
            check.due("34 shorter", gate.sheet(1, lane, 4), 4);
            check.due("32 all 0", gate.seen(0, 1, lane, 0, 4, 2), 15);
            check.due("36 the end", gate.item(1, lane, 4, 1), INDEX);
            check.due("34 longer again", gate.sheet(1, lane, 8), 8);
            check.due("32 all 0", gate.seen(0, 1, lane, 0, 8, 2), 15);
            check.due("34 of another lane", gate.sheet(1, (lane + 1) % 4, 8), 8);
            check.due("36 the old lane", gate.item(1, lane, 0, 1), CAST);
            check.due("36 the new lane", gate.item(1, (lane + 1) % 4, 0, 1), 1);
            check.due("36 no other sheet", gate.drop(2), NULL);
        }
    }

    /** "Who is IN behind 1, 2, .. n HOURS (1 .. 24), an item each .. comes to a SHEET". */
    private static void filmUpToTheEnd() {
        CarriedGate gate = check.told("14n;g14.20*,g14n0", 2);
        gate.sheet(0, 1, 24);
        check.due("33 24", gate.film(24, 0, 1, 0), 24);
        check.due("33 24 from 1 on", gate.film(24, 0, 1, 1), INDEX);
        check.due("33 23 from 1 on", gate.film(23, 0, 1, 1), 23);
        check.due("33 one at the end", gate.film(1, 0, 1, 23), 1);
        check.due("33 two at the end", gate.film(2, 0, 1, 23), INDEX);
        // Item 0 is behind one hour, and item 1 on behind one hour again.
        check.due("32 the first", gate.seen(1, 0, 1, 0, 1, 1) & 1, 1);
        check.due("32 from 1 on", gate.seen(1, 0, 1, 1, 8, 1), 1);
        check.due("32 the last", gate.seen(1, 0, 1, 23, 1, 1) & 1, 1);
        CarriedGate short1 = check.told("14n;g14.20*,g14n0", 2);
        check.put(short1, 0, 1, 9, 9, 9, 9, 9);
        check.due("33 two in the middle", short1.film(2, 0, 1, 1), 2);
        check.due("32 ahead of them", short1.seen(1, 0, 1, 0, 1, 0), 0);
        check.due("32 the two", short1.seen(1, 0, 1, 1, 2, 1), 1);
        check.due("32 behind them", short1.seen(1, 0, 1, 3, 1, 0), 0);
        check.due("33 nothing is done", short1.count(5), 0);
        // Behind hour 20 the gate lies: nobody is in.
        CarriedGate falls = check.told("14n;s14.20*", 1);
        falls.sheet(0, 3, 24);
        falls.film(24, 0, 3, 0);
        falls.hours(18);
        check.due("32 in, then not", falls.seen(0, 0, 3, 18, 6, 0), 2);
    }

    /** Items as marks, 1 or 0: the gate lies, so an item is as seen if it is 0. */
    private static void rowIs(CarriedGate gate, int sheet, int lane, String marks) {
        for (int i = 0; i < marks.length(); i++) {
            check.due("37 item " + i + " of " + marks, gate.seen(0, sheet, lane, i, 1, 2), marks.charAt(i) == '0' ? 15 : 0);
        }
    }

    /** "to another one (or the same) .. as if all were taken ahead": onward, back, onto itself. */
    private static void copyAsIfTakenAhead() {
        for (int lane = 0; lane < 4; lane++) {
            CarriedGate gate = check.told("14n;g14.5", 1);
            check.put(gate, 0, lane, 1, 0, 0, 1, 0, 1);
            check.due("37 onward", gate.copy(0, 0, 0, 1, 5), 5);
            rowIs(gate, 0, lane, "110010");
            check.due("37 back", gate.copy(0, 1, 0, 0, 5), 5);
            rowIs(gate, 0, lane, "100100");
            check.due("37 onto itself", gate.copy(0, 0, 0, 0, 6), 6);
            rowIs(gate, 0, lane, "100100");
            check.put(gate, 3, lane, 1, 1, 1, 1);
            check.due("37 to another one", gate.copy(0, 2, 3, 1, 3), 3);
            rowIs(gate, 3, lane, "1010");
            rowIs(gate, 0, lane, "100100");
        }
        // The items themselves come, not marks: 2 to the 40th and 5 more is none of the sets that are seen.
        CarriedGate wide = check.told("14n;g14.5*,g8.0", 2);
        check.put(wide, 0, 3, 2, (1L << 40) + 2);
        check.put(wide, 1, 3, 0, 0);
        check.due("37 both", wide.copy(0, 0, 1, 0, 2), 2);
        check.due("32 2 came", wide.seen(1, 1, 3, 0, 1, 2), 1);
        check.due("32 the other one came whole", wide.seen(1, 1, 3, 1, 1, 2), 0);
    }

    /** "INDEX": up to the end of either row, and n of 0 there. */
    private static void copyUpToTheEnd() {
        CarriedGate gate = check.told("14n;g14.5", 1);
        check.put(gate, 0, 2, 1, 1, 1, 1, 1, 1);
        check.put(gate, 1, 2, 0, 0, 0, 0);
        int[][] calls = {{0, 0, 4}, {2, 0, 4}, {5, 3, 1}, {6, 4, 0}, {0, 4, 0}, {6, 0, 0}, {7, 0, 0}, {0, 5, 0}, {3, 0, 4}, {0, 1, 4}, {0, 0, 5},
            {6, 0, 1}, {0, 4, 1}, {-1, 0, 1}, {0, -1, 1}, {-1, 0, 0}, {0, -1, 0}, {0, 0, -1}};
        int[] want = {4, 4, 1, 0, 0, 0, INDEX, INDEX, INDEX, INDEX, INDEX, INDEX, INDEX, INDEX, INDEX, INDEX, INDEX, INDEX};
        check.due("as many", want.length, calls.length);
        for (int i = 0; i < calls.length; i++) {
            check.put(gate, 1, 2, 0, 0, 0, 0);
            int[] c = calls[i];
            check.due("37 copy(0, " + c[0] + ", 1, " + c[1] + ", " + c[2] + ")", gate.copy(0, c[0], 1, c[1], c[2]), want[i]);
            StringBuilder marks = new StringBuilder("0000");
            for (int k = 0; want[i] >= 0 && k < c[2]; k++) marks.setCharAt(c[1] + k, '1');
            rowIs(gate, 1, 2, marks.toString());
        }
        CarriedGate whole = check.told("14n;g14.5", 1);
        whole.sheet(0, 0, 24);
        whole.sheet(1, 0, 24);
        whole.item(0, 0, 0, 1);
        whole.item(0, 0, 23, 1);
        check.due("37 all 24", whole.copy(0, 0, 1, 0, 24), 24);
        rowIs(whole, 1, 0, "100000000000000000000001");
        check.due("37 25", whole.copy(0, 0, 1, 0, 25), INDEX);
        check.due("37 of unlike lanes", whole.sheet(2, 1, 24), 24);
        check.due("37 of unlike lanes", whole.copy(0, 0, 2, 0, 0), CAST);
    }
}
