/** Promises 8 to 17: hours, what is done with the gate, rain, drift, what is undone, the draw. */
public final class DeedsTest {
    private static final Check check = new Check();

    public static void main(String[] args) {
        walking();
        gettingWet();
        tiring();
        hours();
        hoursAreFull();
        carry();
        turn();
        hand();
        lay();
        send();
        rain();
        drift();
        undo();
        seed();
        check.end("DeedsTest");
    }

    /** Promise 8: who walks stops at the edge for the hour in which it turns about. */
    private static void walking() {
        CarriedGate gate = check.told("14n;g4e0,s6n0,t30s0,h1w0,p15.0,g14e9*", 6);
        int[][] cells = {{5, 0, 30, 0, 15, 14}, {5, 0, 24, 0, 15, 14}, {4, 6, 18, 1, 15, 14}, {3, 12, 12, 2, 15, 14}};
        for (int hour = 0; hour < 4; hour++) {
            gate.hours(1);
            for (int one = 0; one < 6; one++) check.due("8 cell of " + one + " behind hour " + hour, gate.of(one, 1), cells[hour][one]);
        }
        int[] walks = {3, 2, 0, 1, 4, 1};
        for (int one = 0; one < 6; one++) check.due("8 walk of " + one, gate.of(one, 2), walks[one]);
        gate.lay();
        gate.hours(1);
        check.due("8 who bore it walks then", gate.of(5, 1), 15);
        CarriedGate edges = check.told("14n;g25s0,g10n0,g15w0,g15e0", 4);
        int[] atEdge = {31, 4, 12, 17};
        int[] hours = {1, 1, 3, 2};
        for (int one = 0; one < 4; one++) {
            check.due("8 up to the edge", edges.then(one, hours[one], 0), atEdge[one]);
            check.due("8 and stays", edges.then(one, hours[one] + 1, 0), atEdge[one]);
        }
    }

    /** Promise 8: rain by the hours modulo 6, on those who are not in once all have walked. */
    private static void gettingWet() {
        CarriedGate gate = check.told("14n/37;g35.0,s34.0,t33.0,h32.0,p31.0,g8.0", 6);
        int[] byRain = {1, 1, 2, 2, 2, 3, 4, 4, 5};
        for (int hour = 0; hour < byRain.length; hour++) {
            gate.hours(1);
            int[] times = {1, 1, 2, 1, 2, 1};
            for (int one = 0; one < 6; one++) check.due("8 wet of " + one + " behind hour " + hour, gate.of(one, 4), byRain[hour] * times[one]);
        }
        CarriedGate in = check.told("14n/63;s14.9*,g8.0,g20.0,g20n0,t8s0", 5);
        in.hours(2);
        int[] wet = {0, 0, 2, 1, 4};
        for (int one = 0; one < 5; one++) check.due("8 wet of " + one, in.of(one, 4), wet[one]);
        in.hours(1);
        check.due("8 dry once it is ahead", in.of(3, 4), 1);
        check.due("8 wet once it is behind", in.of(4, 4), 6);
        CarriedGate most = check.told("14n/63;g0.0,t0.0,p0.0", 3);
        most.hours(40);
        most.hours(9);
        check.due("8 stranger at 98", most.of(1, 4), 98);
        check.due("8 sheep at 98", most.of(2, 4), 98);
        most.hours(1);
        check.due("8 guest", most.of(0, 4), 50);
        check.due("8 stranger, 99 at most", most.of(1, 4), 99);
        check.due("8 sheep, 99 at most", most.of(2, 4), 99);
        most.hours(40);
        most.hours(40);
        check.due("8 99 at most", most.count(7), 3 * 99);
    }

    /** Promise 8: the bearer grows tired, the others rest. */
    private static void tiring() {
        CarriedGate gate = check.told("14n/63;s14.2*,g14.0,g14.19", 3);
        gate.hours(1);
        check.due("8 the bearer is 1 less strong", gate.of(0, 3), 1);
        check.due("8 others are 1 more strong", gate.of(1, 3), 1);
        check.due("8 others are 1 more strong", gate.of(2, 3), 20);
        check.due("8 it stands", gate.count(3), 0);
        check.due("8 hours(1), at 0 it lies", gate.hours(1), 0);
        check.due("8 at 0", gate.of(0, 3), 0);
        check.due("8 nobody bears it", gate.count(3), CarriedGate.NONE);
        check.due("8 20 at most", gate.of(2, 3), 20);
        check.due("8 it rained on nobody who was in in that hour", gate.of(0, 4), 0);
        gate.hours(1);
        check.due("8 who is no bearer rests, if it lies too", gate.of(0, 3), 1);
        check.due("8 and gets wet", gate.of(0, 4), 1);
        check.due("8 three hours", gate.of(1, 3), 3);
    }

    private static void hours() {
        CarriedGate gate = check.told("14e;s14.9*,g12e0", 2);
        check.due("8 hours(2)", gate.hours(2), 1);
        check.due("8 hours(1)", gate.hours(1), 3);
        check.due("8 the hour", gate.count(5), 3);
        check.due("8 each may be undone", gate.count(8), 3);
        for (int n : new int[] {0, -1, 41, Integer.MIN_VALUE, Integer.MAX_VALUE}) check.due("8 bad", gate.hours(n), CarriedGate.BAD);
        check.due("8 the hour stays", gate.count(5), 3);
        gate.hours(40);
        check.due("8 40 hours", gate.count(5), 43);
        check.due("8 eight are known", gate.count(8), 8);
    }

    private static void hoursAreFull() {
        CarriedGate gate = new CarriedGate();
        for (int i = 0; i < 249; i++) gate.hours(40);
        check.due("8 the hour", gate.count(5), 9960);
        check.due("8 full", gate.hours(40), CarriedGate.FULL);
        check.due("15 full", gate.drift(40), CarriedGate.FULL);
        check.due("8 bad goes ahead of full", gate.hours(41), CarriedGate.BAD);
        check.due("15 bad goes ahead of full", gate.drift(41), CarriedGate.BAD);
        check.due("15 the draw stays", gate.seed(1), 1);
        check.due("8 39 more", gate.hours(39), 0);
        check.due("8 the last hour", gate.count(5), 9999);
        check.due("8 full", gate.hours(1), CarriedGate.FULL);
        check.due("15 full", gate.drift(1), CarriedGate.FULL);
        check.due("18 foretold all the same", gate.ahead(40), 0);
        check.due("8 undone", gate.undo(), 7);
        check.due("15 one more", gate.drift(1), 0);
        check.due("8 the last hour", gate.count(5), 9999);
    }

    /** Promise 9. */
    private static void carry() {
        CarriedGate gate = check.told("0s;g0e9*,s0.5", 2);
        for (int direction : new int[] {-1, 4, Integer.MIN_VALUE, Integer.MAX_VALUE}) check.due("9 bad", gate.carry(direction), CarriedGate.BAD);
        check.due("9 off the plain", gate.carry(0), CarriedGate.NOT);
        check.due("9 off the plain", gate.carry(3), CarriedGate.NOT);
        check.due("9 not weaker", gate.of(0, 3), 9);
        check.due("9 east", gate.carry(1), 1);
        check.due("9 south", gate.carry(2), 7);
        check.due("9 west", gate.carry(3), 6);
        check.due("9 north", gate.carry(0), 0);
        check.due("9 weaker", gate.of(0, 3), 5);
        check.due("9 carry", gate.carry(2), 6);
        check.due("9 the bearer goes along", gate.of(0, 1), 6);
        check.due("9 no other does", gate.of(1, 1), 0);
        check.due("9 the gate", gate.count(1), 6);
        check.due("9 it looks as before", gate.count(2), 2);
        check.due("9 may be undone", gate.count(8), 5);
        check.due("9 in no hour", gate.count(5), 0);
        gate.carry(1);
        gate.carry(1);
        check.due("9 strong by 2", gate.carry(1), 9);
        check.due("9 strong by 1", gate.carry(1), CarriedGate.NOT);
        gate.lay();
        check.due("9 it lies", gate.carry(1), CarriedGate.NOT);
        check.due("9 bad goes ahead", gate.carry(4), CarriedGate.BAD);
        CarriedGate corner = check.told("35s;g35e9*", 1);
        check.due("9 off the plain", corner.carry(1), CarriedGate.NOT);
        check.due("9 off the plain", corner.carry(2), CarriedGate.NOT);
        check.due("9 nothing to be undone", corner.count(8), 0);
    }

    /** Promise 10. */
    private static void turn() {
        CarriedGate gate = check.told("14n;s14.9*,g8.0,g15.0,g20.0,g13.0", 5);
        for (int direction : new int[] {-1, 4, Integer.MIN_VALUE, Integer.MAX_VALUE}) check.due("10 bad", gate.turn(direction), CarriedGate.BAD);
        check.due("10 it is so", gate.turn(0), CarriedGate.NOT);
        check.due("10 nothing to be undone", gate.count(8), 0);
        check.due("10 east", gate.turn(1), 1 | 4);
        check.due("10 south", gate.turn(2), 1 | 8);
        check.due("10 west", gate.turn(3), 1 | 16);
        check.due("10 north", gate.turn(0), 1 | 2);
        check.due("10 may be undone", gate.count(8), 4);
        check.due("10 no weaker", gate.of(0, 3), 9);
        gate.lay();
        check.due("10 a gate that lies", gate.turn(1), 0);
        check.due("10 looks", gate.count(2), 1);
    }

    /** Promise 11. */
    private static void hand() {
        CarriedGate gate = check.told("14n;g20.1,g15e5,g16.5,g14.0,g21.5,g14.2", 6);
        for (int one : new int[] {-1, 6, 8, Integer.MIN_VALUE, Integer.MAX_VALUE}) check.due("11 bad", gate.hand(one), CarriedGate.BAD);
        check.due("11 far by 2", gate.hand(2), CarriedGate.NOT);
        check.due("11 far by 2", gate.hand(4), CarriedGate.NOT);
        check.due("11 strong by 0", gate.hand(3), CarriedGate.NOT);
        check.due("11 nothing to be undone", gate.count(8), 0);
        check.due("11 lifted", gate.hand(0), CarriedGate.NONE);
        check.due("11 at the gate's cell", gate.of(0, 1), 14);
        check.due("11 the bearer", gate.count(3), 0);
        check.due("11 it is the bearer", gate.hand(0), CarriedGate.NOT);
        check.due("11 handed", gate.hand(1), 0);
        check.due("11 at the gate's cell", gate.of(1, 1), 14);
        check.due("11 the one before stays there", gate.of(0, 1), 14);
        check.due("11 no weaker", gate.of(1, 3), 5);
        check.due("11 walks as before", gate.of(1, 2), 1);
        check.due("11 handed", gate.hand(5), 1);
        check.due("11 may be undone", gate.count(8), 3);
        gate.lay();
        check.due("11 lifted again", gate.hand(5), CarriedGate.NONE);
        gate.undo();
        gate.undo();
        gate.undo();
        gate.undo();
        check.due("11 undone: where it was", gate.of(1, 1), 15);
    }

    /** Promise 12. */
    private static void lay() {
        CarriedGate gate = check.told("14n;g14.3,s14.3*", 2);
        check.due("12 laid", gate.lay(), 1);
        check.due("12 nobody bears it", gate.count(3), CarriedGate.NONE);
        check.due("12 nobody is in", gate.count(6), 0);
        check.due("12 it lies", gate.lay(), CarriedGate.NOT);
        check.due("12 may be undone", gate.count(8), 1);
        check.due("12 undone", gate.undo(), 0);
        check.due("12 the bearer", gate.count(3), 1);
        check.due("12 in", gate.count(6), 2);
    }

    /** Promise 13. */
    private static void send() {
        CarriedGate gate = check.told("14n;g0.3,s14w3*", 2);
        int[][] bad = {{-1, 0}, {2, 0}, {0, -1}, {0, 5}, {Integer.MAX_VALUE, 0}, {0, Integer.MIN_VALUE}};
        for (int[] b : bad) check.due("13 bad", gate.send(b[0], b[1]), CarriedGate.BAD);
        check.due("13 it is so", gate.send(0, 4), CarriedGate.NOT);
        check.due("13 it is so", gate.send(1, 3), CarriedGate.NOT);
        check.due("13 nothing to be undone", gate.count(8), 0);
        check.due("13 sent", gate.send(0, 2), 4);
        check.due("13 sent", gate.send(0, 1), 2);
        check.due("13 the bearer too", gate.send(1, 4), 3);
        gate.hours(1);
        check.due("13 walks so", gate.of(0, 1), 1);
        gate.undo();
        check.due("13 may be undone", gate.undo(), 2);
        check.due("13 as before", gate.of(1, 2), 3);
        check.due("13 to none", gate.send(0, 4), 1);
    }

    /** Promise 14. */
    private static void rain() {
        CarriedGate gate = check.told("14n;g0.3", 1);
        for (int hours : new int[] {-1, 64, Integer.MIN_VALUE, Integer.MAX_VALUE}) check.due("14 bad", gate.rain(hours), CarriedGate.BAD);
        check.due("14 it is so", gate.rain(0), CarriedGate.NOT);
        check.due("14 nothing to be undone", gate.count(8), 0);
        check.due("14 rain", gate.rain(63), 0);
        check.due("14 rain", gate.rain(2), 63);
        check.due("14 it is so", gate.rain(2), CarriedGate.NOT);
        check.due("14 the set", gate.count(4), 2);
        gate.hours(8);
        check.due("14 by the hours", gate.count(7), 2);
        CarriedGate undone = new CarriedGate();
        undone.rain(5);
        undone.rain(6);
        check.due("14 undone", undone.undo(), 1);
        check.due("14 as before", undone.count(4), 5);
    }

    /** Promise 15. */
    private static void drift() {
        CarriedGate gate = check.told("14n/63;s14.9*,g0.0,g35.0,t20.0", 4);
        int[] cells = {14, 0, 35, 20};
        int[] walks = {4, 4, 4, 4};
        long draw = 1;
        for (int hour = 0; hour < 30; hour++) {
            draw = (draw * 1103515245L + 12345L) & 0x7fffffffL;
            walks[(int) (draw / 65536 % 4)] = (int) (draw / 128 % 5);
            for (int one = hour < 9 ? 1 : 0; one < 4; one++) step(cells, walks, one);
            gate.drift(1);
            for (int one = 0; one < 4; one++) {
                check.due("15 cell", gate.of(one, 1), cells[one]);
                check.due("15 walk", gate.of(one, 2), walks[one]);
            }
        }
        check.due("15 the hour", gate.count(5), 30);
        check.due("15 the draw", gate.seed(5), draw);
        for (int n : new int[] {0, -1, 41, Integer.MIN_VALUE, Integer.MAX_VALUE}) check.due("15 bad", gate.drift(n), CarriedGate.BAD);
        check.due("15 the draw stays", gate.seed(5), 5);

        CarriedGate once = check.told("14n;s14.20*,g20.0,g20.0,g20.0", 4);
        CarriedGate byOnes = check.told("14n;s14.20*,g20.0,g20.0,g20.0", 4);
        int in = 0;
        for (int i = 0; i < 12; i++) in = byOnes.drift(1);
        check.due("15 who is in then", once.drift(12), in);
        check.due("15 eight may be undone", once.count(8), 8);
        long last = once.seed(3);
        check.due("15 undone", once.undo(), 7);
        check.due("15 undone", byOnes.undo(), 7);
        check.due("15 with the draw and who is sent", once.drift(1), in);
        check.due("15 the same draw", once.seed(0), last);

        CarriedGate alone = check.told("14n;g14.0", 1);
        alone.drift(1);
        long first = 1103515245L + 12345L & 0x7fffffffL;
        check.due("15 alone", alone.of(0, 2), first / 128 % 5);
        CarriedGate nobody = new CarriedGate();
        check.due("15 nobody", nobody.drift(2), 0);
        check.due("15 draws all the same", nobody.seed(1), ((1103515245L + 12345L & 0x7fffffffL) * 1103515245L + 12345L) & 0x7fffffffL);
        check.due("15 two", nobody.count(8), 2);
    }

    private static void step(int[] cells, int[] walks, int one) {
        int[] rows = {-1, 0, 1, 0, 0};
        int[] columns = {0, 1, 0, -1, 0};
        int row = cells[one] / 6 + rows[walks[one]];
        int column = cells[one] % 6 + columns[walks[one]];
        if (row < 0 || row > 5 || column < 0 || column > 5) walks[one] = walks[one] ^ 2;
        else cells[one] = 6 * row + column;
    }

    /** Promise 16. */
    private static void undo() {
        CarriedGate gate = check.told("14n/63;s14.9*,g20n3,t0e2", 3);
        check.due("16 none", gate.undo(), CarriedGate.NONE);
        int[] before = Check.state(gate);
        gate.hours(1);
        gate.carry(1);
        gate.turn(2);
        gate.lay();
        gate.hours(1);
        gate.send(2, 3);
        gate.rain(9);
        gate.drift(1);
        check.due("16 all eight", gate.count(8), 8);
        for (int left = 7; left >= 0; left--) check.due("16 undo()", gate.undo(), left);
        check.due("16 none more", gate.undo(), CarriedGate.NONE);
        check.isAsBefore("16 undo()", gate, before);

        gate.seed(77);
        gate.hours(1);
        gate.seed(78);
        gate.undo();
        check.due("16 the draw as ahead of it, whatever was told since", gate.seed(1), 77);

        for (int hour = 0; hour < 11; hour++) gate.hours(1);
        for (int left = 7; left >= 0; left--) {
            check.due("16 the latest", gate.undo(), left);
            check.due("16 the hour", gate.count(5), 3 + left);
        }
        check.due("16 older ones are lost", gate.undo(), CarriedGate.NONE);
        check.due("16 the hour", gate.count(5), 3);
        gate.turn(1);
        check.due("16 anew", gate.undo(), 0);
    }

    /** Promise 17. */
    private static void seed() {
        CarriedGate gate = new CarriedGate();
        check.due("17 1 at first", gate.seed(0), 1);
        check.due("17 seed", gate.seed(Integer.MAX_VALUE), 0);
        check.due("17 bad", gate.seed(-1), CarriedGate.BAD);
        check.due("17 bad", gate.seed(Integer.MIN_VALUE), CarriedGate.BAD);
        check.due("17 seed", gate.seed(4), Integer.MAX_VALUE);
        check.due("17 is nothing to be undone", gate.count(8), 0);
    }
}
