/** Promises 18 to 31: what is foretold, searched, told apart by odds; images. */
public final class ForetoldTest {
    private static final Check check = new Check();

    public static void main(String[] args) {
        ahead();
        then();
        lies();
        wet();
        facing();
        room();
        nearest();
        hinge();
        duel();
        stood();
        field();
        dry();
        imageAndRestore();
        nothingIsChanged();
        alwaysFromNow();
        check.end("ForetoldTest");
    }

    /** Promise 18. */
    private static void ahead() {
        CarriedGate gate = check.told("14e;s14.3*,g12e0,t15e0", 3);
        int[] want = {1 | 4, 1 | 4, 1 | 4, 0, 0};
        for (int n = 0; n < want.length; n++) check.due("18 ahead(" + n + ")", gate.ahead(n), want[n]);
        check.due("18 ahead(40)", gate.ahead(40), 0);
        for (int n : new int[] {-1, 41, Integer.MIN_VALUE, Integer.MAX_VALUE}) check.due("18 bad", gate.ahead(n), CarriedGate.BAD);
        CarriedGate longer = check.told("14e;s14.20*,g12e0,t15e0,t27e0", 4);
        int[] more = {1 | 4 | 8, 1 | 4, 1 | 4, 1 | 2 | 4, 1 | 2 | 4, 1 | 2 | 4 | 8};
        for (int n = 0; n < more.length; n++) check.due("18 ahead(" + n + ")", longer.ahead(n), more[n]);
    }

    /** Promise 19. */
    private static void then() {
        CarriedGate gate = check.told("14e/3;g14.2*,g16e0", 2);
        int[] cells = {16, 17, 17, 16, 15};
        int[] wets = {0, 1, 2, 2, 2};
        int[] bears = {1, 1, 0, 0, 0};
        for (int n = 0; n < cells.length; n++) {
            check.due("19 cell", gate.then(1, n, 0), cells[n]);
            check.due("19 wet", gate.then(0, n, 1), wets[n]);
            check.due("19 bears", gate.then(0, n, 2), bears[n]);
            check.due("19 bears not", gate.then(1, n, 2), 0);
        }
        check.due("19 wet of who is in", gate.then(1, 6, 1), 0);
        check.due("19 wet of who is not in behind 7", gate.then(1, 7, 1), 1);
        check.due("19 40 hours", gate.then(1, 40, 1), 12);
        int[][] bad = {{-1, 0, 0}, {2, 0, 0}, {0, -1, 0}, {0, 41, 0}, {0, 0, -1}, {0, 0, 3}, {Integer.MAX_VALUE, 0, 0},
            {0, Integer.MIN_VALUE, 0}, {0, 0, Integer.MAX_VALUE}};
        for (int[] b : bad) check.due("19 bad", gate.then(b[0], b[1], b[2]), CarriedGate.BAD);
    }

    /** Promise 20. */
    private static void lies() {
        check.due("20 lies", new CarriedGate().lies(), 0);
        for (int strong = 1; strong <= 20; strong++) {
            CarriedGate gate = check.told("14e/3;g14.20,g14." + strong + "*", 2);
            check.due("20 strong by " + strong, gate.lies(), strong);
        }
    }

    /** Promise 21. */
    private static void wet() {
        CarriedGate gate = check.told("14e/11;g14.3*,g15.0,t12.0", 3);
        int[] want = {0, 3, 6, 6, 10, 10, 10, 14, 18};
        for (int n = 0; n < want.length; n++) check.due("21 wet(" + n + ")", gate.wet(n), want[n]);
        check.due("21 40 hours", gate.wet(40), 10 + 4 * 18);
        gate.hours(4);
        check.due("21 from now", gate.wet(0), 10);
        check.due("21 from now", gate.wet(3), 14);
        for (int n : new int[] {-1, 41, Integer.MIN_VALUE, Integer.MAX_VALUE}) check.due("21 bad", gate.wet(n), CarriedGate.BAD);
    }

    /** Promise 22. */
    private static void facing() {
        CarriedGate gate = check.told("14n/63;s14.9*,g20.0,g21.0,g13.0", 4);
        check.due("22 south", gate.facing(1, 0), 2);
        check.due("22 how much", gate.facing(1, 1), 1);
        check.due("22 nine hours", gate.facing(9, 1), 9);
        check.due("22 it lies then", gate.facing(11, 1), 9 + 8);
        gate.hours(2);
        check.due("22 with what is wet already", gate.facing(1, 1), 6 + 1);
        CarriedGate alike = check.told("14w/63;s14.9*,g15.0,g13.0", 3);
        check.due("22 of like ones the first", alike.facing(5, 0), 1);
        check.due("22 how much", alike.facing(5, 1), 5);
        CarriedGate lying = check.told("14w/63;s14.9,g15.0", 2);
        check.due("22 it lies", lying.facing(5, 0), 0);
        check.due("22 it lies", lying.facing(5, 1), 10);
        CarriedGate walks = check.told("14n/2;s14.9*,g14w0,g20n0", 3);
        check.due("22 behind the hours", walks.facing(2, 0), 0);
        check.due("22 behind the hours", walks.facing(2, 1), 1);
        int[][] bad = {{0, 0}, {41, 0}, {-1, 0}, {1, -1}, {1, 2}, {Integer.MAX_VALUE, 0}, {1, Integer.MIN_VALUE}};
        for (int[] b : bad) check.due("22 bad", gate.facing(b[0], b[1]), CarriedGate.BAD);
        check.due("22 40 hours", gate.facing(40, 0), 2);
    }

    private static void roomDue(CarriedGate gate, int some, int deeds, int cell, int look) {
        check.due("23 room(" + some + ", 0)", gate.room(some, 0), deeds);
        check.due("23 room(" + some + ", 1)", gate.room(some, 1), cell);
        check.due("23 room(" + some + ", 2)", gate.room(some, 2), look);
    }

    /** Promise 23. */
    private static void room() {
        CarriedGate gate = check.told("14n;g14.4*,g13.0,g9.0", 3);
        roomDue(gate, 4, 0, 14, 0);
        roomDue(gate, 2, 1, 14, 3);
        roomDue(gate, 2 | 4, 1, 20, 0);
        roomDue(gate, 0, 1, 8, 0);
        roomDue(gate, 1, CarriedGate.NONE, CarriedGate.NONE, CarriedGate.NONE);
        CarriedGate weak = check.told("14n;g14.1*,g13.0,g9.0", 3);
        roomDue(weak, 2, 1, 14, 3);
        roomDue(weak, 0, 1, 14, 2);
        roomDue(weak, 2 | 4, CarriedGate.NONE, CarriedGate.NONE, CarriedGate.NONE);
        CarriedGate farther = check.told("14n;g14.3*,g27.0,g21.0", 3);
        roomDue(farther, 2, 2, 20, 2);
        CarriedGate once = check.told("14n;g14.2*,g27.0,g21.0", 3);
        roomDue(once, 2, 2, 20, 2);
        CarriedGate tooWeak = check.told("14n;g14.2*,g33.0,g27.0", 3);
        roomDue(tooWeak, 2, CarriedGate.NONE, CarriedGate.NONE, CarriedGate.NONE);
        CarriedGate bearerGoes = check.told("14n;s14.9*,g20.0", 2);
        roomDue(bearerGoes, 1, 0, 14, 0);
        roomDue(bearerGoes, 3, 1, 14, 2);
        roomDue(bearerGoes, 0, CarriedGate.NONE, CarriedGate.NONE, CarriedGate.NONE);
        roomDue(check.told("14n;s14.1*,g8.0", 2), 1, 1, 14, 1);
        roomDue(check.told("0n;s0.1*,g8.0", 2), 1, 0, 0, 0);
        roomDue(check.told("35n;s35.20*,g35.0", 2), 3, 2, 29, 2);
        CarriedGate lying = check.told("14n;s14.9,g20.0", 2);
        roomDue(lying, 0, CarriedGate.NONE, CarriedGate.NONE, CarriedGate.NONE);
        int[][] bad = {{8, 0}, {-1, 0}, {0, -1}, {0, 3}, {256, 0}, {Integer.MIN_VALUE, 0}, {Integer.MAX_VALUE, 0}, {0, Integer.MAX_VALUE}};
        for (int[] b : bad) {
            check.due("23 bad", gate.room(b[0], b[1]), CarriedGate.BAD);
            check.due("24 bad", gate.nearest(b[0], b[1]), CarriedGate.BAD);
        }
        check.due("23 bad goes ahead of none", lying.room(4, 0), CarriedGate.BAD);
        check.due("24 bad goes ahead of none", lying.nearest(4, 0), CarriedGate.BAD);
    }

    private static void nearestDue(CarriedGate gate, int some, int many, int which, int deeds) {
        check.due("24 nearest(" + some + ", 0)", gate.nearest(some, 0), many);
        check.due("24 nearest(" + some + ", 1)", gate.nearest(some, 1), which);
        check.due("24 nearest(" + some + ", 2)", gate.nearest(some, 2), deeds);
    }

    /** Promise 24. */
    private static void nearest() {
        CarriedGate gate = check.told("14n;g14.4*,g13.0,g9.0", 3);
        nearestDue(gate, 4, 0, 0, 0);
        nearestDue(gate, 2 | 4, 0, 0, 1);
        nearestDue(gate, 7, 1, 1, 1);
        nearestDue(gate, 1, 1, 1, 1);
        nearestDue(gate, 1 | 4, 1, 1, 0);
        CarriedGate weak = check.told("14n;g14.1*,g13.0,g9.0", 3);
        nearestDue(weak, 2 | 4, 1, 2, 0);
        nearestDue(weak, 1 | 2 | 4, 2, 1 | 2, 0);
        nearestDue(check.told("14n;s14.5", 1), 0, CarriedGate.NONE, CarriedGate.NONE, CarriedGate.NONE);
        // At two looks by one turning each, one other than told: the lesser look.
        nearestDue(check.told("14n;s14.1*,g15.0,g13.0", 3), 7, 1, 4, 1);
    }

    /** Promise 25. */
    private static void hinge() {
        CarriedGate gate = check.told("14n/63;s14.3*,g8.0,t20.0,h9.0", 4);
        check.due("25 one hour", gate.hinge(1), 10003);
        check.due("25 three hours", gate.hinge(3), 10009);
        check.due("25 no more than it stands", gate.hinge(40), 10009);
        check.due("25 it lies", check.told("14n/63;s14.3,g8.0", 2).hinge(5), 10000);
        check.due("25 no rain", check.told("14n;s14.3*,g8.0", 2).hinge(5), 10000);
        // Laid down, it ends where it lies; who bore it walks then, and all are wet alike.
        check.due("25 none was in", check.told("14n/63;g14.3*,g20.0", 2).hinge(5), 10000);
        CarriedGate all = check.told("14n/63;g0.0,g8.0,t14.9*", 3);
        for (int i = 0; i < 3; i++) all.hours(40);
        check.due("25 99 at most", all.hinge(3), 10000);
        for (int n : new int[] {0, -1, 41, Integer.MIN_VALUE, Integer.MAX_VALUE}) check.due("25 bad", gate.hinge(n), CarriedGate.BAD);
    }

    /** Promise 26. */
    private static void duel() {
        // By looks: north 0, east 1, south 2, west 3 of the guests; the bearer is never in.
        CarriedGate gate = check.told("14n;g14.9*,g15.0,g20.0,g26.0,g12.0,g13.0,g13.0", 7);
        int[] in = {0, 1, 2, 3};
        for (int look = 0; look < 4; look++) {
            if (look != gate.count(2)) gate.turn(look);
            for (int n = 0; n <= 5; n++) check.due("26 duel(" + n + ") from " + look, gate.duel(n), play(in, look, n, true));
        }
        check.tell(gate, "14n;g14.9*,g15.0,g20.0,g26.0,g12.0,g13.0,g13.0", 7);
        int[] want = {0, 3, 0, 3, 0, 3};
        for (int n = 0; n <= 5; n++) check.due("26 duel(" + n + ")", gate.duel(n), want[n]);
        gate.lay();
        for (int n = 0; n <= 5; n++) check.due("26 it lies", gate.duel(n), 0);
        for (int n : new int[] {-1, 6, Integer.MIN_VALUE, Integer.MAX_VALUE}) check.due("26 bad", gate.duel(n), CarriedGate.BAD);
    }

    private static int play(int[] in, int look, int turns, boolean many) {
        if (turns == 0) return in[look];
        int stay = play(in, look, turns - 1, !many);
        int right = play(in, (look + 1) % 4, turns - 1, !many);
        int left = play(in, (look + 3) % 4, turns - 1, !many);
        return many ? Math.max(stay, Math.max(right, left)) : Math.min(stay, Math.min(right, left));
    }

    /** Promise 27. */
    private static void stood() {
        CarriedGate gate = new CarriedGate();
        check.due("27 nobody", gate.stood(0, 0), 144);
        check.due("27 nobody", gate.stood(0, 1), 0);
        CarriedGate one = check.told("14n;g7.0", 1);
        // North of it: four rows below; likewise to the other sides.
        check.due("27 in", one.stood(1, 0), 6 * (4 + 1 + 1 + 4));
        check.due("27 in, the first", one.stood(1, 1), 1);
        check.due("27 not in", one.stood(0, 0), 144 - 60);
        check.due("27 not in, the first", one.stood(0, 1), 0);
        CarriedGate shy = check.told("35n;h0.0,s0.0", 2);
        check.due("27 at the cell of the gate", shy.stood(2, 0), 4);
        check.due("27 the first", shy.stood(2, 1), 0);
        CarriedGate bearer = check.told("14n;h14.5*,s14.0", 2);
        check.due("27 the bearer too, as it is now", bearer.stood(3, 1), 1);
        check.due("27 the bearer too, as it is now", bearer.stood(2, 0), 4);
        check.due("27 the bearer too, as it is now", bearer.stood(2, 1), 56);
        CarriedGate none = check.told("14n;g7.0,g7.0", 2);
        check.due("27 none", none.stood(1, 0), 0);
        check.due("27 none", none.stood(1, 1), CarriedGate.NONE);
        int[][] bad = {{4, 0}, {-1, 0}, {0, -1}, {0, 2}, {Integer.MIN_VALUE, 0}, {Integer.MAX_VALUE, 0}, {0, Integer.MAX_VALUE}};
        for (int[] b : bad) check.due("27 bad", none.stood(b[0], b[1]), CarriedGate.BAD);
        check.due("27 bad, nobody", gate.stood(1, 0), CarriedGate.BAD);
        CarriedGate eight = check.told("14n;g0.0,g0.0,g0.0,g0.0,g0.0,g0.0,g0.0,g0.0", 8);
        check.due("27 all eight", eight.stood(255, 0), 60);
        check.due("27 bad", eight.stood(256, 0), CarriedGate.BAD);
    }

    private static void fieldDue(CarriedGate gate, int cell, int face, int cells, int people, int rooms) {
        check.due("28 field(" + cell + ", " + face + ", 0)", gate.field(cell, face, 0), cells);
        check.due("28 field(" + cell + ", " + face + ", 1)", gate.field(cell, face, 1), people);
        check.due("28 field(" + cell + ", " + face + ", 2)", gate.field(cell, face, 2), rooms);
    }

    /** Promise 28. */
    private static void field() {
        // The gate leaves rows 2 to 5; ahead of it are rows 0 and 1.
        CarriedGate gate = check.told("14n;s14.5*,g0.0,g35.0,g20.0", 4);
        fieldDue(gate, 14, 0, 24, 1 | 4 | 8, 0);
        fieldDue(gate, 14, 2, 6, 1, 1);
        fieldDue(gate, 6, 2, 0, 0, 1);
        fieldDue(gate, 0, 2, 0, 0, 0);
        fieldDue(gate, 16, 1, 20, 1 | 8, 0);
        fieldDue(gate, 35, 1, 24, 1 | 4 | 8, 1);
        gate.lay();
        fieldDue(gate, 14, 0, 24, 1 | 4 | 8, 1);
        fieldDue(gate, 0, 2, 6, 2, 1);
        fieldDue(new CarriedGate(), 35, 1, 36, 0, 1);
        fieldDue(check.told("6n;s6.1*", 1), 7, 3, 25, 0, 0);
        fieldDue(check.told("29s;s29.1*", 1), 28, 1, 25, 0, 0);
        int[][] bad = {{-1, 0, 0}, {36, 0, 0}, {0, -1, 0}, {0, 4, 0}, {0, 0, -1}, {0, 0, 3}, {Integer.MAX_VALUE, 0, 0},
            {0, Integer.MIN_VALUE, 0}, {0, 0, Integer.MAX_VALUE}};
        for (int[] b : bad) check.due("28 bad", gate.field(b[0], b[1], b[2]), CarriedGate.BAD);
    }

    private static void dryDue(CarriedGate gate, int[] call, int above, int below) {
        String text = "29 dry(" + call[0] + ", " + call[1] + ", " + call[2] + ", " + call[3] + ", ";
        check.due(text + "0)", gate.dry(call[0], call[1], call[2], call[3], 0), above);
        check.due(text + "1)", gate.dry(call[0], call[1], call[2], call[3], 1), below);
    }

    /** Promise 29. */
    private static void dry() {
        CarriedGate gate = check.told("14n/63;g14.3*,g8.0,t20.0", 3);
        dryDue(gate, new int[] {0, 0, 0, 5}, 1, 1);
        dryDue(gate, new int[] {0, 0, 1, 5}, 1, 2);
        dryDue(gate, new int[] {0, 0, 1, 0}, 1, 1);
        dryDue(gate, new int[] {0, 0, 1, 10}, 0, 1);
        dryDue(gate, new int[] {0, 1, 2, 3}, 91, 100);
        dryDue(gate, new int[] {0, 1, 6, 1}, 177147, 200000);
        dryDue(gate, new int[] {0, 99, 6, 10}, 1, 1);
        dryDue(gate, new int[] {1, 0, 3, 10}, 1, 1);
        dryDue(gate, new int[] {1, 0, 4, 10}, 0, 1);
        dryDue(gate, new int[] {1, 0, 4, 2}, 4, 5);
        dryDue(gate, new int[] {2, 1, 2, 4}, 9, 25);
        dryDue(gate, new int[] {2, 2, 2, 4}, 21, 25);
        dryDue(gate, new int[] {2, 3, 2, 4}, 21, 25);
        gate.hours(2);
        dryDue(gate, new int[] {2, 3, 0, 4}, 0, 1);
        dryDue(gate, new int[] {2, 4, 0, 4}, 1, 1);
        CarriedGate walker = check.told("14n;s14.9*,g26n0", 2);
        dryDue(walker, new int[] {1, 1, 6, 5}, 3, 4);
        CarriedGate most = check.told("14n/63;p20.0", 1);
        most.hours(40);
        most.hours(9);
        dryDue(most, new int[] {0, 98, 1, 5}, 1, 2);
        dryDue(most, new int[] {0, 99, 6, 10}, 1, 1);
        int[][] bad = {{-1, 0, 0, 0, 0}, {3, 0, 0, 0, 0}, {0, -1, 0, 0, 0}, {0, 100, 0, 0, 0}, {0, 0, -1, 0, 0}, {0, 0, 7, 0, 0},
            {0, 0, 0, -1, 0}, {0, 0, 0, 11, 0}, {0, 0, 0, 0, -1}, {0, 0, 0, 0, 2}, {0, 0, Integer.MAX_VALUE, 0, 0}, {0, 0, 0, Integer.MIN_VALUE, 0}};
        for (int[] b : bad) check.due("29 bad", gate.dry(b[0], b[1], b[2], b[3], b[4]), CarriedGate.BAD);
    }

    /** Promises 30 and 31. */
    private static void imageAndRestore() {
        CarriedGate gate = check.told("14n/63;s14.9*,g20n3", 2);
        check.due("31 none", gate.restore(), CarriedGate.NONE);
        gate.seed(5);
        gate.turn(1);
        gate.hours(2);
        gate.sheet(0, 2, 3);
        gate.type('9');
        check.due("30 image", gate.image(), 1);
        int[] then = Check.state(gate);
        gate.sheet(0, 1, 4);
        gate.type('s');
        gate.drift(9);
        gate.lay();
        gate.person(4, 3, 2);
        check.due("31 restore", gate.restore(), 1);
        check.isAsBefore("31 restore()", gate, then);
        check.due("31 the draw", gate.seed(5), 5);
        check.due("31 two people", gate.of(2, 0), CarriedGate.BAD);
        check.due("31 what may be undone", gate.undo(), 2);
        check.due("31 what may be undone", gate.undo(), 1);
        check.due("31 what may be undone", gate.undo(), 0);
        check.due("31 undone", gate.count(2), 0);
        check.due("31 not the sheets", gate.drop(0), 4);
        check.due("31 not the tape", gate.plain(), 0);
        check.due("31 the tape", gate.count(1), 9);
        check.due("31 again", gate.restore(), 1);
        check.isAsBefore("31 restore() again", gate, then);
        gate.hours(13);
        check.due("30 an image of a full past", gate.image(), 1);
        gate.undo();
        gate.turn(3);
        gate.turn(2);
        gate.restore();
        for (int left = 7; left >= 0; left--) {
            check.due("31 what may be undone", gate.undo(), left);
            check.due("31 the hour", gate.count(5), 2 + 5 + left);
        }
        gate.turn(3);
        check.due("30 a newer image", gate.image(), 1);
        gate.turn(0);
        gate.restore();
        check.due("31 the newer image", gate.count(2), 3);
    }

    /** What was foretold ahead of a call leaves nothing behind. */
    private static void alwaysFromNow() {
        String text = "14e/45;g14.9*,s8s4,t16w7,h20.0,p15n3,g0e20,t33n2,p34.1";
        for (int which = 0; which < 16; which++) {
            CarriedGate gate = check.told(text, 8);
            CarriedGate other = check.told(text, 8);
            gate.sheet(0, 2, 8);
            other.sheet(0, 2, 8);
            other.stood(0, 0);
            other.ahead(40);
            check.due("2 call " + which + " behind others", foretold(other, which), foretold(gate, which));
            other.field(0, 2, 0);
            other.ahead(17);
            check.due("2 call " + which + " again", foretold(other, which), foretold(gate, which));
        }
    }

    private static int foretold(CarriedGate gate, int which) {
        switch (which) {
            case 0: return gate.ahead(1);
            case 1: return gate.then(1, 2, 0);
            case 2: return gate.lies();
            case 3: return gate.wet(5);
            case 4: return gate.facing(2, 0);
            case 5: return gate.room(158, 0);
            case 6: return gate.nearest(21, 1);
            case 7: return gate.hinge(9);
            case 8: return gate.duel(3);
            case 9: return gate.stood(158, 0);
            case 10: return gate.field(8, 2, 1);
            case 11: return gate.dry(5, 1, 3, 4, 0);
            case 12: return gate.film(8, 0, 2, 0);
            case 13: return gate.seen(4, 0, 2, 0, 1, 2);
            case 14: return gate.film(8, 0, 2, 0) + gate.seen(4, 0, 2, 0, 8, 2);
            default: return gate.film(8, 0, 2, 0) + gate.seen(6, 0, 2, 0, 8, 1);
        }
    }

    private static void nothingIsChanged() {
        CarriedGate gate = check.told("14n/63;s14.9*,g20n3,p0e4", 3);
        gate.hours(2);
        gate.seed(12);
        int[] before = Check.state(gate);
        gate.ahead(9);
        gate.then(1, 9, 0);
        gate.lies();
        gate.wet(9);
        gate.facing(9, 0);
        gate.room(3, 0);
        gate.nearest(3, 0);
        gate.hinge(9);
        gate.duel(5);
        gate.stood(3, 0);
        gate.field(0, 1, 0);
        gate.dry(2, 3, 6, 4, 0);
        gate.sheet(0, 3, 24);
        gate.film(24, 0, 3, 0);
        for (int what = 0; what < 3; what++) gate.seen(1, 0, 3, 0, 8, what);
        check.isAsBefore("2 what is foretold", gate, before);
        check.due("2 nothing is changed, the draw", gate.seed(1), 12);
    }
}
