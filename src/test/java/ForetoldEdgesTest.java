/**
 * Section 2 of the document, FORETOLD, and promises 18 to 31 by it: each sentence that names an edge has a test, named
 * by its words. The numbers of promises stand ahead of what is compared.
 */
public final class ForetoldEdgesTest {
    private static final Check check = new Check();
    private static final int NONE = CarriedGate.NONE;
    private static final String LOOKS = "nesw";
    private static final String EIGHT = "14e/45;g14.9*,s8s4,t16w7,h20.0,p15n3,g0e20,t33n2,p34.1";
    /** A cell on each side of the gate at 14, next to it. */
    private static final int[] SIDES = {8, 15, 20, 13};

    public static void main(String[] args) {
        behindNoHours();
        behindFortyHours();
        behindHour9999();
        liesFirst();
        facingOfLikeOnesTheFirst();
        facingForOneAndForFortyHours();
        roomAsOftenAsStrongAllows();
        roomByOneTurn();
        roomOfLikeOnes();
        roomOfNone();
        roomOnThePlain();
        roomsOneBehindTheOther();
        nearestOfLikeOnes();
        nearestNone();
        hingeIsWorthNothing();
        hingeUpTo99();
        duelByQuarters();
        duelByTurns();
        stoodAtAllCellsAndLooks();
        stoodAsTheyAreNow();
        fieldOfTheSecondGateAlone();
        fieldOfBoth();
        dryForNoHours();
        dryByNoneAndByTen();
        dryInLowestTerms();
        dryAtTheEdgesOfWet();
        dryWhoIsInBetween();
        imagesAreKept();
        check.end("ForetoldEdgesTest");
    }

    /** "behind n HOURS (0 .. 40)": behind 0 all is as now. */
    private static void behindNoHours() {
        CarriedGate gate = check.told(EIGHT, 8);
        for (int hour = 0; hour < 3; hour++) {
            check.due("18 now", gate.ahead(0), gate.count(6));
            check.due("21 now", gate.wet(0), gate.count(7));
            for (int one = 0; one < 8; one++) {
                check.due("19 the cell now", gate.then(one, 0, 0), gate.of(one, 1));
                check.due("19 how wet now", gate.then(one, 0, 1), gate.of(one, 4));
                check.due("19 who bears it now", gate.then(one, 0, 2), gate.count(3) == one ? 1 : 0);
            }
            gate.hours(1);
        }
    }

    /** "behind n HOURS (0 .. 40)": behind each n up to 40 it is as foretold. */
    private static void behindFortyHours() {
        CarriedGate foretold = check.told(EIGHT, 8);
        CarriedGate done = check.told(EIGHT, 8);
        for (int n = 1; n <= 40; n++) {
            check.due("18 ahead(" + n + ")", foretold.ahead(n), done.hours(1));
            check.due("21 wet(" + n + ")", foretold.wet(n), done.count(7));
            int one = n % 8;
            check.due("19 the cell", foretold.then(one, n, 0), done.of(one, 1));
            check.due("19 how wet", foretold.then(one, n, 1), done.of(one, 4));
            check.due("19 who bears it", foretold.then(0, n, 2), n < 9 ? 1 : 0);
        }
        check.due("19 nothing is changed", foretold.count(5), 0);
    }

    /** The HOUR that is foretold may be above 9999: only HOURS that are done are FULL. */
    private static void behindHour9999() {
        CarriedGate gate = check.told("14n;g14.0,t20e0", 2);
        for (int i = 0; i < 249; i++) gate.hours(40);
        gate.hours(39);
        // Hour 9999 leaves 3 by 6: rain in it, then in each sixth.
        gate.rain(1 << 3);
        int[] times = {0, 1, 1, 1, 1, 1, 1, 2};
        for (int n = 0; n < times.length; n++) check.due("21 wet(" + n + ") from 9999", gate.wet(n), 3 * times[n]);
        check.due("19 40 hours from 9999", gate.then(1, 40, 1), 2 * 7);
        check.due("22 40 hours from 9999", gate.facing(40, 1), 3 * 7);
        check.due("25 40 hours from 9999", gate.hinge(40), 10000);
        check.due("20 from 9999", gate.lies(), 0);
        check.due("29 six hours from 9999", gate.dry(0, 0, 6, 10, 0), 0);
        gate.sheet(0, 2, 24);
        check.due("33 24 hours from 9999", gate.film(24, 0, 2, 0), 24);
        check.due("32 eight hours from 9999", gate.seen(0, 0, 2, 16, 8, 0), 31);
        check.due("8 none is done", gate.hours(1), CarriedGate.FULL);
    }

    /** "the first of 0 to 40 HOURS behind which THE GATE LIES": 0 at once, 20 at most, as one is STRONG by 20 at most. */
    private static void liesFirst() {
        CarriedGate gate = new CarriedGate();
        check.due("20 at once", gate.lies(), 0);
        for (int strong = 1; strong <= 20; strong++) {
            CarriedGate borne = check.told("14n;g14." + strong + "*", 1);
            check.due("20 strong by " + strong, borne.lies(), strong);
            check.due("19 it stands until then", borne.then(0, strong - 1, 2), 1);
            check.due("19 it lies then", borne.then(0, strong, 2), 0);
            borne.hours(strong);
            check.due("20 now", borne.lies(), 0);
        }
        CarriedGate laid = check.told("14n;g14.20*", 1);
        laid.lay();
        check.due("20 laid", laid.lies(), 0);
        laid.hand(0);
        check.due("20 lifted", laid.lies(), 20);
        laid.carry(0);
        check.due("20 carried", laid.lies(), 19);
    }

    /** "of like ones the first": all alike, two alike, none alike; as it LOOKS now is not better than another. */
    private static void facingOfLikeOnesTheFirst() {
        for (int look = 0; look < 4; look++) {
            String gate = "14" + LOOKS.charAt(look) + "/63;g14.9*";
            check.due("22 all alike", check.told(gate, 1).facing(3, 0), 0);
            check.due("22 all alike", check.told(gate, 1).facing(3, 1), 3);
            for (int a = 0; a < 4; a++) {
                CarriedGate one = check.told(gate + ",g" + SIDES[a] + ".0", 2);
                check.due("22 one side", one.facing(3, 0), a);
                check.due("22 one side", one.facing(3, 1), 3);
                for (int b = a + 1; b < 4; b++) {
                    CarriedGate two = check.told(gate + ",g" + SIDES[b] + ".0,g" + SIDES[a] + ".0", 3);
                    check.due("22 two sides", two.facing(3, 0), a);
                    check.due("22 two sides", two.facing(3, 1), 6);
                }
            }
            CarriedGate lies = check.told("14" + LOOKS.charAt(look) + "/63;g14.9,g13.0", 2);
            check.due("22 it lies", lies.facing(3, 0), 0);
            check.due("22 it lies", lies.facing(3, 1), 6);
        }
        check.due("22 nobody", new CarriedGate().facing(40, 0), 0);
        check.due("22 nobody", new CarriedGate().facing(40, 1), 0);
    }

    /** "FACING for n HOURS (1 .. 40)": of the first alone, of all, with what was WET ahead of it. */
    private static void facingForOneAndForFortyHours() {
        // One walks from the west of the gate to the east of it; it is in its column behind two hours.
        CarriedGate gate = check.told("14n/63;g14.20*,g12e0", 2);
        check.due("22 one hour: west", gate.facing(1, 0), 3);
        check.due("22 one hour", gate.facing(1, 1), 1);
        check.due("22 three hours: west and east alike", gate.facing(3, 0), 1);
        check.due("22 three hours", gate.facing(3, 1), 3 + 2);
        check.due("22 four hours: east", gate.facing(4, 0), 1);
        check.due("22 four hours", gate.facing(4, 1), 4 + 2);
        gate.hours(1);
        check.due("22 with what was wet", gate.facing(1, 1), 2 + 1 + 1);
        CarriedGate falls = check.told("14n/63;g14.1*,g13.0", 2);
        check.due("22 it lies behind the first of 40", falls.facing(40, 1), 40 + 39);
        check.due("22 and did good in that one", falls.facing(40, 0), 3);
        CarriedGate full = check.told("14n/63;g14.9,g13.0", 2);
        for (int i = 0; i < 3; i++) full.hours(40);
        full.hand(0);
        check.due("22 all are wet by 99", full.facing(40, 1), 2 * 99);
        check.due("22 all are alike then", full.facing(40, 0), 0);
    }

    private static void roomDue(String text, int people, int some, int deeds, int cell, int look) {
        CarriedGate gate = check.told(text, people);
        check.due("23 room(" + some + ", 0) of " + text, gate.room(some, 0), deeds);
        check.due("23 room(" + some + ", 1) of " + text, gate.room(some, 1), cell);
        check.due("23 room(" + some + ", 2) of " + text, gate.room(some, 2), look);
    }

    private static void noRoom(String text, int people, int some) {
        roomDue(text, people, some, NONE, NONE, NONE);
    }

    /** "CARRIED no more often than STRONG allows": one who is STRONG by s carries it s - 1 times. */
    private static void roomAsOftenAsStrongAllows() {
        for (int cell = 1; cell < 36; cell++) {
            // A sworn one is in and a shy one at the same cell is not: the gate must be just there.
            int far = cell / 6 + cell % 6;
            for (int strong = 1; strong <= 20; strong++) {
                String text = "0n;s0." + strong + "*,s" + cell + ".0,h" + cell + ".0";
                if (strong > far) roomDue(text, 3, 3, far, cell, 0);
                else noRoom(text, 3, 3);
            }
        }
    }

    /** "one TURN at most": that is enough for any look, and counts one, with the steps. */
    private static void roomByOneTurn() {
        for (int from = 0; from < 4; from++) {
            for (int to = 0; to < 4; to++) {
                String text = "14" + LOOKS.charAt(from) + ";g14.1*,g8.0,g15.0,g20.0,g13.0";
                roomDue(text, 5, 2 << to, from == to ? 0 : 1, 14, to);
            }
        }
        // Two rows south and two farther: it is carried one step south and turned.
        roomDue("14n;g14.2*,g26.0,g20.0", 3, 2, 2, 20, 2);
        noRoom("14n;g14.1*,g26.0,g20.0", 3, 2);
    }

    /** "of like ones the least CELL, then the least LOOK", ahead of both the fewest deeds. */
    private static void roomOfLikeOnes() {
        roomDue("14n;g14.2*,g7.0", 2, 0, 1, 8, 0);
        roomDue("14n;g14.1*,g7.0", 2, 0, 1, 14, 1);
        roomDue("14s;g14.9*,g7.0", 2, 0, 0, 14, 2);
        roomDue("14e;g14.1*,g16.0", 2, 0, 1, 14, 0);
        roomDue("14s;g14.9*,g13.0", 2, 2, 1, 8, 2);
        roomDue("14s;g14.1*,g13.0", 2, 2, 1, 14, 3);
    }

    /** "none", and sets of nobody and of all. */
    private static void roomOfNone() {
        noRoom("14n;g14.20*,g8.0", 2, 1);
        noRoom("14n;g14.20*,g8.0", 2, 3);
        noRoom("14n;s14.20*,g8.0", 2, 0);
        noRoom("14n;s14.20,g8.0", 2, 0);
        noRoom("14n;s14.20,g8.0", 2, 1);
        roomDue("14n;s14.1*,g8.0", 2, 3, 0, 14, 0);
        roomDue("14n;s14.1*,s14.0,s14.0,s14.0,s14.0,s14.0,s14.0,s14.0", 8, 255, 0, 14, 0);
        check.due("23 nobody is there", new CarriedGate().room(0, 0), NONE);
        check.due("23 none of nobody", new CarriedGate().room(1, 0), CarriedGate.BAD);
    }

    /** The gate is never off the plain: there, just beyond an edge, all four corners could be ahead of it. */
    private static void roomOnThePlain() {
        String[] gates = {"0n;g0.20*", "5e;g5.20*", "35s;g35.20*", "30w;g30.20*", "0s;g0.20*", "35n;g35.20*"};
        for (String gate : gates) {
            String text = gate + ",g0.0,g5.0,g35.0,g30.0";
            noRoom(text, 5, 30);
            check.due("24 two are left out", check.told(text, 5).nearest(30, 0), 2);
        }
    }

    /** What was asked ahead of it does not matter: all sets one behind the other, and each by itself. */
    private static void roomsOneBehindTheOther() {
        String text = "14n;g14.3*,s13.0,t9.0,h20.0";
        CarriedGate gate = check.told(text, 4);
        for (int some = 0; some < 16; some++) {
            CarriedGate fresh = check.told(text, 4);
            for (int what = 0; what < 3; what++) {
                check.due("23 room(" + some + ", " + what + ") behind others", gate.room(some, what), fresh.room(some, what));
                check.due("24 nearest(" + some + ", " + what + ") behind others", gate.nearest(some, what), fresh.nearest(some, what));
                check.due("18 now", gate.ahead(0), gate.count(6));
            }
        }
    }

    private static void nearestDue(String text, int people, int some, int many, int which, int deeds) {
        CarriedGate gate = check.told(text, people);
        check.due("24 nearest(" + some + ", 0) of " + text, gate.nearest(some, 0), many);
        check.due("24 nearest(" + some + ", 1) of " + text, gate.nearest(some, 1), which);
        check.due("24 nearest(" + some + ", 2) of " + text, gate.nearest(some, 2), deeds);
    }

    /** "by which fewest are IN or not other than told, of like ones with the fewest deeds, then as above". */
    private static void nearestOfLikeOnes() {
        // Fewer others go ahead of fewer deeds: one step west and a turning to the east.
        nearestDue("14n;g14.9*,g8.0,g20.0", 3, 6, 0, 0, 2);
        // Of like ones the fewest deeds: none, though a turning to the south has one other as well.
        nearestDue("14n;g14.1*,g8.0,g20.0", 3, 6, 1, 4, 0);
        // Then the least cell: a step to the west or to the east lets in one stranger or the other.
        nearestDue("20n;g20.2*,t6.0,t10.0,g14.0,g14.0", 5, 30, 1, 4, 1);
        // Then the least look: a turning to the east or to the west.
        nearestDue("14n;g14.1*,g13.0,g15.0", 3, 6, 1, 2, 1);
        // Who is in and was not told counts as much as who was told and is not in.
        nearestDue("14n;s14.1*,g8.0", 2, 2, 1, 1, 0);
        nearestDue("14n;g14.1*,g14.0", 2, 3, 2, 3, 0);
        nearestDue("14n;g14.1*,g14.0", 2, 0, 0, 0, 0);
        nearestDue("14n;g14.1*,g14.0,g14.0,g14.0,g14.0,g14.0,g14.0,g14.0", 8, 255, 8, 255, 0);
    }

    /** "none: it LIES"; else there is always a nearest. */
    private static void nearestNone() {
        nearestDue("14n;s14.20,g8.0", 2, 0, NONE, NONE, NONE);
        nearestDue("14n;s14.20,g8.0", 2, 3, NONE, NONE, NONE);
        CarriedGate gate = check.told("14n;s14.1*,g8.0", 2);
        for (int some = 0; some < 4; some++) check.isSo("24 always one", gate.nearest(some, 0) >= 0);
        gate.hours(1);
        for (int some = 0; some < 4; some++) check.due("24 it lies", gate.nearest(some, 0), NONE);
        check.due("24 nobody is there", new CarriedGate().nearest(0, 0), NONE);
    }

    /** "HINGE .. 0, if it LIES", or if nobody was IN, or if there is no rain. (Below 0 it is never: laid, it keeps nobody dry.) */
    private static void hingeIsWorthNothing() {
        int[] hours = {1, 2, 39, 40};
        for (int n : hours) {
            check.due("25 nobody", new CarriedGate().hinge(n), 10000);
            check.due("25 it lies", check.told("14n/63;g14.9,g8.0", 2).hinge(n), 10000);
            check.due("25 nobody is in", check.told("14n/63;g14.9*,g20.0", 2).hinge(n), 10000);
            check.due("25 no rain", check.told("14n;g14.9*,g8.0", 2).hinge(n), 10000);
        }
        CarriedGate late = check.told("14n/2;g14.1*,g8.0", 2);
        check.due("25 no rain in the hour in which it stands", late.hinge(40), 10000);
        CarriedGate early = check.told("14n/1;g14.1*,g8.0", 2);
        check.due("25 rain in the hour in which it stands", early.hinge(1), 10001);
        check.due("25 and in 40", early.hinge(40), 10001);
        CarriedGate strangers = check.told("14n/63;g14.20*,t8.0,p8.0,t8.0,p8.0,t8.0,p8.0,t8.0", 8);
        check.due("25 the most", strangers.hinge(40), 10000 + 7 * 2 * 20);
        check.due("25 nothing is laid", strangers.count(3), 0);
    }

    /** "by how much ALL WET would be more": no more than to 99. */
    private static void hingeUpTo99() {
        CarriedGate gate = check.told("14n/63;g14.0,t8.0", 2);
        gate.hours(40);
        gate.hours(8);
        check.due("25 wet by 96", gate.of(1, 4), 96);
        gate.hand(0);
        int[] want = {10002, 10003, 10003};
        for (int n = 1; n <= 3; n++) check.due("25 up to 99", gate.hinge(n), want[n - 1]);
    }

    /** "by a quarter to the right, to the left, or not at all": round from north to west and back, but no half turning. */
    private static void duelByQuarters() {
        for (int look = 0; look < 4; look++) {
            for (int side = 0; side < 4; side++) {
                CarriedGate gate = check.told("14" + LOOKS.charAt(look) + ";g14.9*,g" + SIDES[side] + ".0", 2);
                boolean opposite = (look + 2) % 4 == side;
                check.due("26 no turn", gate.duel(0), look == side ? 1 : 0);
                check.due("26 one turn", gate.duel(1), opposite ? 0 : 1);
                check.due("26 two turns", gate.duel(2), 0);
                check.due("26 three turns", gate.duel(3), opposite ? 0 : 1);
                check.due("26 four turns", gate.duel(4), 0);
                check.due("26 five turns", gate.duel(5), opposite ? 0 : 1);
            }
        }
    }

    /** "DUEL for n turns (0 .. 5)": nobody, all, and nothing is turned; 0, if it LIES. */
    private static void duelByTurns() {
        for (int n = 0; n <= 5; n++) {
            check.due("26 nobody", new CarriedGate().duel(n), 0);
            check.due("26 it lies", check.told("14n;s14.9,g8.0", 2).duel(n), 0);
            check.due("26 always in", check.told("14n;s14.1*,s14.0,s14.0", 3).duel(n), 3);
            check.due("26 never in", check.told("14n;g14.1*,g14.0,h14.0", 3).duel(n), 0);
        }
        // Two in the north, one in the east: the one who wants many goes north, the other leaves it for the west.
        CarriedGate gate = check.told("14e;g14.9*,g8.0,g8.0,g15.0", 4);
        int[] want = {1, 2, 0, 2, 0, 2};
        for (int n = 0; n <= 5; n++) check.due("26 duel(" + n + ")", gate.duel(n), want[n]);
        check.due("26 it is not turned", gate.count(2), 1);
    }

    /** "at how many of all CELLS, LOOKS": each of 144 belongs to one set; "the first one .. 4 times the CELL, and the LOOK". */
    private static void stoodAtAllCellsAndLooks() {
        CarriedGate gate = check.told("14n;g7.0,s8.0,t22.0,h35.0,p0.0", 5);
        int sum = 0;
        for (int some = 0; some < 32; some++) {
            int many = gate.stood(some, 0);
            sum += many;
            check.due("27 a first one, if there is one", gate.stood(some, 1) == NONE ? 0 : 1, many == 0 ? 0 : 1);
        }
        check.due("27 all", sum, 144);
        check.due("27 nobody there", new CarriedGate().stood(0, 0), 144);
        check.due("27 the first of all", new CarriedGate().stood(0, 1), 0);
        for (int cell = 0; cell < 36; cell++) {
            CarriedGate just = check.told("14n;s" + cell + ".0,h" + cell + ".0", 2);
            check.due("27 just there", just.stood(1, 0), 4);
            check.due("27 just there, the first", just.stood(1, 1), 4 * cell);
            check.due("27 none", just.stood(2, 0), 0);
            check.due("27 none", just.stood(2, 1), NONE);
        }
        CarriedGate last = check.told("14n;t35.0,g35.0,g0.0", 3);
        // Ahead of a gate that is not too far is the last corner, and behind or beside it the first.
        check.due("27 far by 3, south", last.stood(3, 1), 4 * 17 + 2);
        CarriedGate west = check.told("14n;g34.0,g35.0", 2);
        check.due("27 by the last cell of all", west.stood(1, 0), 6);
        check.due("27 the first of these", west.stood(1, 1), 4 * 5 + 3);
    }

    /** "as they are now (THE BEARER, too)": the bearer stays where it is; whether it STANDS is all the same. */
    private static void stoodAsTheyAreNow() {
        CarriedGate gate = check.told("14n;g14.9*", 1);
        check.due("27 the bearer would be in", gate.stood(1, 0), 6 * (2 + 3 + 3 + 2));
        check.due("27 the first, east of it", gate.stood(1, 1), 1);
        gate.lay();
        check.due("27 it lies", gate.stood(1, 0), 60);
        check.due("27 it lies", gate.stood(1, 1), 1);
        CarriedGate sheep = check.told("14n;g14.9*,p14.0", 2);
        check.due("27 a sheep by the bearer", sheep.stood(1, 0), 0);
        check.due("27 a sheep by the bearer", sheep.stood(3, 0), 60);
    }

    private static int left(int cell, int look) {
        return new int[] {cell / 6, 5 - cell % 6, 5 - cell / 6, cell % 6}[look];
    }

    /** "(THE GATE: if it STANDS)": if it LIES, the second one alone takes cells, and there are two ROOMS always. */
    private static void fieldOfTheSecondGateAlone() {
        CarriedGate gate = check.told("14n;g0.0,g5.0,g30.0,g35.0", 4);
        for (int cell = 0; cell < 36; cell++) {
            for (int face = 0; face < 4; face++) {
                check.due("28 cells by " + cell + ", " + face, gate.field(cell, face, 0), 36 - 6 * left(cell, face));
                check.due("28 two rooms", gate.field(cell, face, 2), 1);
            }
        }
        check.due("28 all four", gate.field(0, 0, 1), 15);
        check.due("28 not the northern ones", gate.field(35, 0, 1), 4 | 8);
        check.due("28 not the southern ones", gate.field(0, 2, 1), 1 | 2);
        check.due("28 not the eastern ones", gate.field(0, 1, 1), 1 | 4);
        check.due("28 not the western ones", gate.field(35, 3, 1), 2 | 8);
    }

    /** "how many CELLS are AHEAD of neither"; "whether no CELL is AHEAD of both". */
    private static void fieldOfBoth() {
        CarriedGate gate = check.told("14n;s14.9*", 1);
        for (int cell = 0; cell < 36; cell++) {
            int row = cell / 6;
            int column = cell % 6;
            // Rows 0 and 1 are ahead of the gate.
            check.due("28 cells, north", gate.field(cell, 0, 0), 36 - 6 * Math.max(2, row));
            check.due("28 cells, east", gate.field(cell, 1, 0), 4 * (column + 1));
            check.due("28 cells, south", gate.field(cell, 2, 0), 36 - 6 * Math.min(6, 2 + 5 - row));
            check.due("28 cells, west", gate.field(cell, 3, 0), 4 * (6 - column));
            check.due("28 rooms, north", gate.field(cell, 0, 2), row == 0 ? 1 : 0);
            check.due("28 rooms, east", gate.field(cell, 1, 2), column == 5 ? 1 : 0);
            check.due("28 rooms, south", gate.field(cell, 2, 2), row >= 1 ? 1 : 0);
            check.due("28 rooms, west", gate.field(cell, 3, 2), column == 0 ? 1 : 0);
        }
        CarriedGate facing = check.told("14n;g0.0,g7.0,g14.9*,g35.0", 4);
        check.due("28 two rooms and no field", facing.field(8, 2, 0), 0);
        check.due("28 nobody is left", facing.field(8, 2, 1), 0);
        check.due("28 two rooms", facing.field(8, 2, 2), 1);
        check.due("28 only who stands between", facing.field(14, 2, 1), 4);
        // One cell alone is ahead of both: each corner of the plain.
        check.due("28 the first cell is ahead of both", check.told("6n;s6.1*", 1).field(7, 3, 2), 0);
        check.due("28 cell 5 is ahead of both", check.told("6n;s6.1*", 1).field(4, 1, 2), 0);
        check.due("28 cell 30 is ahead of both", check.told("24s;s24.1*", 1).field(1, 3, 2), 0);
        check.due("28 the last cell is ahead of both", check.told("24s;s24.1*", 1).field(4, 1, 2), 0);
        // No cell is ahead of either, though both look the same way off the plain.
        String[] off = {"0n;s0.1*", "35e;s35.1*", "35s;s35.1*", "0w;s0.1*"};
        int[] at = {5, 5, 30, 30};
        for (int look = 0; look < 4; look++) check.due("28 two rooms of no cell", check.told(off[look], 1).field(at[look], look, 2), 1);
        CarriedGate edges = check.told("0n;g0.9*,g35.0", 2);
        check.due("28 all is field", edges.field(35, 1, 0), 36);
        check.due("28 all are left", edges.field(35, 1, 1), 3);
        check.due("28 two rooms of no cell", edges.field(35, 1, 2), 1);
    }

    private static void dryDue(CarriedGate gate, int one, int v, int n, int c, int above, int below) {
        String text = "29 dry(" + one + ", " + v + ", " + n + ", " + c + ", ";
        check.due(text + "0)", gate.dry(one, v, n, c, 0), above);
        check.due(text + "1)", gate.dry(one, v, n, c, 1), below);
    }

    /** "the next n HOURS (0 .. 6)": behind 0 one is as WET as now, whatever c is. */
    private static void dryForNoHours() {
        CarriedGate gate = check.told("14n/63;g20.0,t20.0", 2);
        gate.hours(3);
        for (int c = 0; c <= 10; c++) {
            dryDue(gate, 0, 2, 0, c, 0, 1);
            dryDue(gate, 0, 3, 0, c, 1, 1);
            dryDue(gate, 1, 5, 0, c, 0, 1);
            dryDue(gate, 1, 6, 0, c, 1, 1);
            dryDue(gate, 1, 99, 0, c, 1, 1);
        }
    }

    /** "it RAINS by c of 10 (0 .. 10) .. whatever RAIN is told": by 0 never, by 10 always. */
    private static void dryByNoneAndByTen() {
        for (int rain : new int[] {0, 1, 63}) {
            CarriedGate gate = check.told("14n/" + rain + ";g20.0,t20.0", 2);
            for (int n = 1; n <= 6; n++) {
                dryDue(gate, 0, 0, n, 0, 1, 1);
                dryDue(gate, 1, 0, n, 0, 1, 1);
                dryDue(gate, 0, n - 1, n, 10, 0, 1);
                dryDue(gate, 0, n, n, 10, 1, 1);
                dryDue(gate, 1, 2 * n - 1, n, 10, 0, 1);
                dryDue(gate, 1, 2 * n, n, 10, 1, 1);
                dryDue(gate, 0, n - 1, n, 5, (1 << n) - 1, 1 << n);
            }
        }
    }

    /** "a fraction in lowest terms": the greatest numbers that there are, and those that share something. */
    private static void dryInLowestTerms() {
        CarriedGate gate = check.told("14n;g20.0,t20.0", 2);
        dryDue(gate, 0, 5, 6, 1, 999999, 1000000);
        dryDue(gate, 0, 0, 6, 9, 1, 1000000);
        dryDue(gate, 0, 0, 6, 1, 531441, 1000000);
        dryDue(gate, 0, 0, 6, 5, 1, 64);
        dryDue(gate, 0, 0, 6, 8, 1, 15625);
        dryDue(gate, 0, 5, 6, 8, 15625 - 4096, 15625);
        dryDue(gate, 0, 0, 1, 4, 3, 5);
        dryDue(gate, 0, 0, 2, 4, 9, 25);
        dryDue(gate, 0, 1, 2, 4, 21, 25);
        dryDue(gate, 1, 3, 2, 4, 21, 25);
        dryDue(gate, 0, 6, 6, 9, 1, 1);
    }

    /** "WET by v (0 .. 99) or less": at 99, nobody is wetter. */
    private static void dryAtTheEdgesOfWet() {
        CarriedGate gate = check.told("14n/63;g20.0,t20.0,p20.0", 3);
        gate.hours(40);
        gate.hours(9);
        for (int one = 1; one <= 2; one++) {
            dryDue(gate, one, 97, 1, 3, 0, 1);
            dryDue(gate, one, 98, 1, 3, 7, 10);
            dryDue(gate, one, 98, 2, 3, 49, 100);
            dryDue(gate, one, 99, 1, 10, 1, 1);
            dryDue(gate, one, 99, 6, 10, 1, 1);
        }
        dryDue(gate, 0, 48, 6, 0, 0, 1);
        dryDue(gate, 0, 49, 6, 0, 1, 1);
        gate.hours(40);
        gate.hours(10);
        for (int one = 0; one < 3; one++) {
            check.due("29 wet by 99", gate.of(one, 4), 99);
            dryDue(gate, one, 98, 6, 0, 0, 1);
            dryDue(gate, one, 99, 6, 10, 1, 1);
        }
    }

    /** Only HOURS in which one is not IN count: the gate falls, one walks in or out, all by the same HOURS. */
    private static void dryWhoIsInBetween() {
        for (int strong = 1; strong <= 6; strong++) {
            CarriedGate gate = check.told("14n;g14." + strong + "*,g8.0", 2);
            for (int n = 0; n <= 6; n++) {
                int open = Math.max(0, n - strong);
                dryDue(gate, 1, 0, n, 5, 1, 1 << open);
            }
        }
        CarriedGate walks = check.told("14n;g14.9*,g20n0,g8s0", 3);
        // The one is beside, then in; the other one is beside, then behind.
        for (int n = 1; n <= 5; n++) {
            dryDue(walks, 1, 0, n, 10, 0, 1);
            dryDue(walks, 1, 1, n, 10, 1, 1);
        }
        check.due("29 beside again behind the sixth", walks.dry(1, 1, 6, 10, 0), 0);
        for (int n = 1; n <= 4; n++) dryDue(walks, 2, 0, n, 5, 1, 1 << n);
    }

    /** "All but SHEETS, THE TAPE is kept as an IMAGE"; "NONE: there is none": once it is kept, it can be had again and again. */
    private static void imagesAreKept() {
        CarriedGate gate = new CarriedGate();
        check.due("31 none", gate.restore(), NONE);
        check.due("30 of nobody", gate.image(), 1);
        check.tell(gate, EIGHT, 8);
        gate.seed(7);
        check.due("31 nobody", gate.restore(), 1);
        check.due("31 nobody", gate.count(0), 0);
        check.due("31 the draw of then", gate.seed(1), 1);
        check.tell(gate, EIGHT, 8);
        gate.turn(0);
        gate.hours(7);
        gate.type('7');
        gate.sheet(1, 0, 3);
        int[] before = Check.state(gate);
        check.due("30 of eight", gate.image(), 1);
        gate.type('e');
        gate.drop(1);
        gate.sheet(2, 3, 24);
        for (int times = 0; times < 2; times++) {
            gate.person(0, 0, 0);
            gate.lay();
            gate.drift(5);
            for (int i = 0; i < 8; i++) gate.undo();
            check.due("31 again", gate.restore(), 1);
            check.isAsBefore("31 restore()", gate, before);
        }
        for (int left = 7; left >= 0; left--) {
            check.due("31 what may be undone, as it was then", gate.undo(), left);
            check.due("31 the hour", gate.count(5), Math.max(0, left - 1));
            check.due("31 the look", gate.count(2), left == 0 ? 1 : 0);
        }
        // A past that went round: the oldest ones were lost ahead of the image.
        gate.restore();
        gate.hours(11);
        gate.image();
        for (int i = 0; i < 5; i++) gate.turn(i % 2 + 1);
        gate.restore();
        for (int left = 7; left >= 0; left--) {
            check.due("31 what may be undone, as it was then", gate.undo(), left);
            check.due("31 the hour", gate.count(5), 7 + 3 + left);
        }
        check.due("31 sheet 1 is dropped as it is", gate.drop(1), CarriedGate.NULL);
        check.due("31 sheet 2 is there as it is", gate.drop(2), 24);
        check.due("31 the tape is as it is", gate.plain(), 0);
        check.due("31 7e was read", 4 * gate.count(1) + gate.count(2), 4 * 7 + 1);
    }
}
