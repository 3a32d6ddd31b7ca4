/**
 * Section 1 of the document, THE PLAIN, and promises 1 to 14 by it: each sentence that names an edge has a test, named
 * by its words. The numbers of promises stand ahead of what is compared.
 */
public final class PlainEdgesTest {
    private static final Check check = new Check();
    private static final int NOT = CarriedGate.NOT, FULL = CarriedGate.FULL, NONE = CarriedGate.NONE;
    private static final int[] ROWS = {-1, 0, 1, 0};
    private static final int[] COLUMNS = {0, 1, 0, -1};
    private static final String LOOKS = "nesw";

    public static void main(String[] args) {
        atFirst();
        eightPeopleAsTheyCome();
        sixRowsOfSix();
        carriedIfOnThePlain();
        aheadBesideBehind();
        farByRowsAndColumnsTogether();
        inByKind();
        nobodyIsInIfItLies();
        sheepByTheNextLesserNumber();
        elseWalkTheOtherWay();
        allButTheBearerWalk();
        rainByHoursModuloSix();
        wetByKind();
        ninetyNineAtMost();
        rainFallsOnceAllHaveWalked();
        lastHourOfTheBearer();
        oneMoreStrongTwentyAtMost();
        strongByTwoOrMore();
        handedOrLifted();
        turnedLaidSent();
        hoursUpTo9999();
        check.end("PlainEdgesTest");
    }

    private static int next(int cell, int direction) {
        int row = cell / 6 + ROWS[direction];
        int column = cell % 6 + COLUMNS[direction];
        return row < 0 || row > 5 || column < 0 || column > 5 ? -1 : 6 * row + column;
    }

    private static int onward(int gate, int look, int cell) {
        return (cell / 6 - gate / 6) * ROWS[look] + (cell % 6 - gate % 6) * COLUMNS[look];
    }

    private static int far(int gate, int cell) {
        return Math.abs(cell / 6 - gate / 6) + Math.abs(cell % 6 - gate % 6);
    }

    /** "(14 at first)", "(0 at first)", "LIES (at first)", "HOUR 0 at first", and promise 1: nobody. */
    private static void atFirst() {
        CarriedGate gate = new CarriedGate();
        check.due("1 nobody", gate.count(0), 0);
        check.due("1 the gate at 14", gate.count(1), 14);
        check.due("1 looks north", gate.count(2), 0);
        check.due("1 lies", gate.count(3), NONE);
        check.due("1 no rain", gate.count(4), 0);
        check.due("1 hour 0", gate.count(5), 0);
        check.due("1 nobody is in", gate.count(6), 0);
        check.due("1 nobody is wet", gate.count(7), 0);
        check.due("1 nothing to be undone", gate.count(8), 0);
        check.due("2 the first one", gate.person(4, 35, 20), 0);
        check.due("2 walks no direction", gate.of(0, 2), 4);
        check.due("2 wet by 0", gate.of(0, 4), 0);
    }

    /** "PEOPLE 0 .. 7, as they come": FULL at 8, also those of a text. */
    private static void eightPeopleAsTheyCome() {
        CarriedGate gate = new CarriedGate();
        for (int one = 0; one < 8; one++) check.due("2 as they come", gate.person(one % 5, 35 - one, 20 - one), one);
        check.due("2 a ninth", gate.person(0, 0, 0), FULL);
        check.due("2 the last one", gate.of(7, 1), 28);
        check.due("3 no ninth", gate.of(8, 0), CarriedGate.BAD);
        CarriedGate told = check.told("0n;g0n0,g0n0,g0n0,g0n0,g0n0,g0n0,g0n0", 7);
        check.due("2 the eighth", told.person(1, 1, 1), 7);
        check.due("2 a ninth", told.person(1, 1, 1), FULL);
        check.tell(told, "0n", 0);
        check.due("2 the first again", told.person(1, 1, 1), 0);
    }

    /** "in six ROWS of six": nobody comes from the end of a ROW into the next, nor from the last ROW into the first. */
    private static void sixRowsOfSix() {
        for (int cell = 0; cell < 36; cell++) {
            for (int direction = 0; direction < 4; direction++) {
                CarriedGate gate = new CarriedGate();
                gate.person(0, cell, 0);
                gate.send(0, direction);
                int next = next(cell, direction);
                check.due("8 a step from " + cell + " to " + direction, gate.then(0, 1, 0), next < 0 ? cell : next);
            }
        }
    }

    /** "CARRIED: .. one CELL in a DIRECTION, if it is on THE PLAIN". */
    private static void carriedIfOnThePlain() {
        for (int cell = 0; cell < 36; cell++) {
            for (int direction = 0; direction < 4; direction++) {
                CarriedGate gate = check.told(cell + "n;g" + cell + ".2*", 1);
                int next = next(cell, direction);
                check.due("9 carried from " + cell + " to " + direction, gate.carry(direction), next < 0 ? NOT : next);
                check.due("9 the gate", gate.count(1), next < 0 ? cell : next);
                check.due("9 the bearer", gate.of(0, 1), next < 0 ? cell : next);
                check.due("9 strong", gate.of(0, 3), next < 0 ? 2 : 1);
                check.due("9 to be undone", gate.count(8), next < 0 ? 0 : 1);
            }
        }
    }

    /** "AHEAD of THE GATE, if .. farther that way ..; BESIDE it, if it is in the same; else BEHIND it": also at the edges. */
    private static void aheadBesideBehind() {
        for (int at = 0; at < 36; at++) {
            for (int look = 0; look < 4; look++) {
                CarriedGate gate = check.told("" + at + LOOKS.charAt(look), 0);
                int aheadOf = 0;
                for (int cell = 0; cell < 36; cell++) {
                    int onward = onward(at, look, cell);
                    int side = gate.side(cell);
                    check.due("4 side of " + cell + " by " + at + ", " + look, side, onward > 0 ? 0 : onward == 0 ? 1 : 2);
                    if (side == 0) aheadOf++;
                }
                int left = new int[] {at / 6, 5 - at % 6, 5 - at / 6, at % 6}[look];
                check.due("4 as far as the plain goes", aheadOf, 6 * left);
            }
        }
    }

    /** "FAR .. by how many ROWS and COLUMNS are between, together": 0 at its CELL, 10 from corner to corner. */
    private static void farByRowsAndColumnsTogether() {
        for (int at = 0; at < 36; at++) {
            CarriedGate gate = check.told(at + "n", 0);
            for (int cell = 0; cell < 36; cell += 5) gate.person(0, cell, 0);
            for (int one = 0; one < 8; one++) check.due("3 far from " + at, gate.of(one, 6), far(at, 5 * one));
        }
        check.due("3 from corner to corner", check.told("0n;g35.0", 1).of(0, 6), 10);
        check.due("3 from the other corner", check.told("5n;g30.0", 1).of(0, 6), 10);
        check.due("3 at its cell", check.told("35n;g35.0", 1).of(0, 6), 0);
    }

    /** "Who is IN, by KIND": all five kinds at each cell, for each cell and look of the gate. */
    private static void inByKind() {
        for (int at = 0; at < 36; at++) {
            for (int look = 0; look < 4; look++) {
                for (int cell = 0; cell < 36; cell++) {
                    CarriedGate gate = new CarriedGate();
                    String text = "" + at + LOOKS.charAt(look) + ";g" + at + ".9*";
                    for (int i = 0; i < text.length(); i++) gate.type(text.charAt(i));
                    gate.plain();
                    // The sheep comes behind the bearer, who is BESIDE.
                    for (int kind = 4; kind >= 0; kind--) gate.person(kind, cell, 0);
                    int onward = onward(at, look, cell);
                    boolean guest = onward > 0;
                    boolean sworn = onward >= 0;
                    boolean stranger = guest && far(at, cell) <= 3;
                    boolean shy = sworn && cell != at;
                    int want = (stranger ? 2 : 0) | (shy ? 4 : 0) | (stranger ? 8 : 0) | (sworn ? 16 : 0) | (guest ? 32 : 0);
                    check.due("7 in by " + at + ", " + look + ", " + cell, gate.count(6), want);
                    if (cell != 21) continue;
                    for (int one = 0; one < 6; one++) check.due("3 in", gate.of(one, 5), want >> one & 1);
                }
            }
        }
    }

    /** "if THE GATE STANDS (if it LIES nobody is)". */
    private static void nobodyIsInIfItLies() {
        CarriedGate gate = check.told("14n;s14.9*,g8.0,s12.0,t8.0,h12.0,p8.0", 6);
        check.due("7 it stands", gate.count(6), 63);
        check.due("12 laid", gate.lay(), 0);
        check.due("7 it lies", gate.count(6), 0);
        for (int one = 0; one < 6; one++) check.due("3 it lies", gate.of(one, 5), 0);
        check.due("18 it lies", gate.ahead(0), 0);
        for (int look = 1; look < 4; look++) check.due("10 it lies", gate.turn(look), 0);
        check.due("8 it lies", gate.hours(1), 0);
        check.due("15 it lies", gate.drift(1), 0);
        check.due("4 a cell is ahead all the same", gate.side(13), 0);
    }

    /** "SHEEP .. or, whose next lesser number there is, if that one is AHEAD": not if that one is IN, or farther on. */
    private static void sheepByTheNextLesserNumber() {
        check.due("7 none is less than 0", check.told("14n;p20.0,g8.0,s14.9*", 3).count(6), 2 | 4);
        check.due("7 the next lesser one is ahead", check.told("14n;s14.9*,g8.0,p20.0", 3).count(6), 1 | 2 | 4);
        check.due("7 not the next greater one", check.told("14n;s14.9*,p20.0,g8.0", 3).count(6), 1 | 4);
        check.due("7 not the one below that", check.told("14n;g8.0,s14.9*,p20.0", 3).count(6), 1 | 2);
        check.due("7 that one is in, but beside", check.told("14n;g14.9*,s13.0,p20.0", 3).count(6), 2);
        check.due("7 that one is ahead, but not in", check.told("14n;g14.9*,t5.0,p20.0", 3).count(6), 4);
        check.due("7 a sheep behind a sheep", check.told("14n;g14.9*,g8.0,p20.0,p20.0", 4).count(6), 2 | 4);
        check.due("7 by itself, near", check.told("14n;g14.9*,p3.0", 2).count(6), 2);
        check.due("7 by itself, far by 4", check.told("14n;g14.9*,p0.0,p5.0", 3).count(6), 4);
        check.due("7 that one far by 4 too", check.told("14n;g14.9*,g0.0,p0.0", 3).count(6), 6);
        check.due("7 the bearer, a sheep", check.told("14n;g8.0,p14.9*", 2).count(6), 3);
        check.due("7 the bearer, a sheep, none less", check.told("14n;p14.9*,g8.0", 2).count(6), 2);
    }

    /** "if it is on THE PLAIN, else WALK the other way from then on (and stay)": from each edge, and in a corner. */
    private static void elseWalkTheOtherWay() {
        int[] edges = {2, 11, 33, 18};
        int[] inner = {8, 10, 27, 19};
        for (int direction = 0; direction < 4; direction++) {
            CarriedGate gate = new CarriedGate();
            gate.person(0, edges[direction], 0);
            gate.send(0, direction);
            gate.hours(1);
            check.due("8 stays", gate.of(0, 1), edges[direction]);
            check.due("8 walks the other way", gate.of(0, 2), (direction + 2) % 4);
            gate.hours(1);
            check.due("8 from then on", gate.of(0, 1), inner[direction]);
            check.due("8 and so on", gate.of(0, 2), (direction + 2) % 4);
            check.due("8 to the other edge and back", gate.then(0, 4 + 1 + 5, 0), edges[direction]);
            check.due("8 stays again", gate.then(0, 4 + 1 + 5 + 1, 0), edges[direction]);
            check.due("8 and goes again", gate.then(0, 4 + 1 + 5 + 2, 0), inner[direction]);
        }
        int[] corners = {0, 5, 35, 30};
        for (int corner = 0; corner < 4; corner++) {
            for (int direction = 0; direction < 4; direction++) {
                CarriedGate gate = new CarriedGate();
                gate.person(0, corners[corner], 0);
                gate.send(0, direction);
                boolean off = next(corners[corner], direction) < 0;
                int way = off ? (direction + 2) % 4 : direction;
                check.due("8 in a corner", gate.then(0, 1, 0), off ? corners[corner] : next(corners[corner], direction));
                gate.hours(1);
                check.due("8 in a corner", gate.of(0, 2), way);
            }
        }
    }

    /** "all but THE BEARER who WALK": the bearer stays and does not turn about; who WALKS none stays. */
    private static void allButTheBearerWalk() {
        CarriedGate gate = check.told("0e;g0n2*,g0n5,g20.5", 3);
        gate.hours(1);
        check.due("8 the bearer stays", gate.of(0, 1), 0);
        check.due("8 the bearer does not turn about", gate.of(0, 2), 0);
        check.due("8 another one does", gate.of(1, 2), 2);
        check.due("8 who walks none stays", gate.of(2, 1), 20);
        gate.hours(1);
        check.due("8 it lies now", gate.count(3), NONE);
        check.due("8 the bearer stayed in that hour too", gate.of(0, 2), 0);
        gate.hours(1);
        check.due("8 bearer no more: turns about", gate.of(0, 2), 2);
        gate.hours(1);
        check.due("8 bearer no more: goes", gate.of(0, 1), 6);
    }

    /** "RAIN: HOURS modulo 6": each bit alone, over two rounds and more. */
    private static void rainByHoursModuloSix() {
        for (int bit = 0; bit < 6; bit++) {
            CarriedGate gate = check.told("14n/" + (1 << bit) + ";g20.0", 1);
            int wet = 0;
            for (int hour = 0; hour < 19; hour++) {
                gate.hours(1);
                if (hour == bit || hour == bit + 6 || hour == bit + 12 || hour == bit + 18) wet++;
                check.due("8 rain in hour " + hour + " by bit " + bit, gate.of(0, 4), wet);
            }
        }
        CarriedGate none = check.told("14n/0;g20.0", 1);
        check.due("8 no rain", none.wet(40), 0);
        CarriedGate all = check.told("14n/63;g20.0", 1);
        check.due("8 always rain", all.wet(40), 40);
    }

    /** "GUEST 1. SWORN, SHY as GUEST. STRANGER 1 more than GUEST. SHEEP as STRANGER"; those who are IN not at all. */
    private static void wetByKind() {
        CarriedGate out = check.told("14n/1;g35.0,s35.0,t35.0,h35.0,p35.0", 5);
        CarriedGate in = check.told("35n/1;g0.0,s0.0,t29.0,h0.0,p29.0,g35.9*", 6);
        int[] wet = {1, 1, 2, 1, 2};
        for (int one = 0; one < 5; one++) {
            check.due("8 not in", out.then(one, 1, 1), wet[one]);
            check.due("8 behind a round", out.then(one, 7, 1), 2 * wet[one]);
            check.due("8 in", in.then(one, 1, 1), 0);
        }
        check.due("8 the bearer, not in", in.then(5, 1, 1), 1);
    }

    /** "WET (99 at most)": GUEST from 98, STRANGER and SHEEP from 98 by 2, and a SHEEP whose WET is odd: 99. */
    private static void ninetyNineAtMost() {
        CarriedGate gate = check.told("14n/63;g20.0,s20.0,t20.0,h20.0,p20.0", 5);
        gate.hours(40);
        gate.hours(9);
        int[] at49 = {49, 49, 98, 49, 98};
        int[] at50 = {50, 50, 99, 50, 99};
        for (int one = 0; one < 5; one++) check.due("8 behind 49", gate.of(one, 4), at49[one]);
        for (int one = 0; one < 5; one++) check.due("8 behind 50", gate.then(one, 1, 1), at50[one]);
        for (int one = 0; one < 5; one++) check.due("8 behind 51", gate.then(one, 2, 1), one == 2 || one == 4 ? 99 : 51);
        gate.hours(40);
        gate.hours(9);
        check.due("8 guest at 98", gate.of(0, 4), 98);
        check.due("8 guest at 99", gate.then(0, 1, 1), 99);
        check.due("8 guest, 99 at most", gate.then(0, 2, 1), 99);
        gate.hours(40);
        for (int one = 0; one < 5; one++) check.due("8 99 at most", gate.of(one, 4), 99);
        check.due("7 together", gate.count(7), 5 * 99);
        check.due("21 together", gate.wet(40), 5 * 99);
    }

    /** "go one CELL .. Then, if it RAINS in this HOUR, all who are not IN get WET": by where they are then. */
    private static void rainFallsOnceAllHaveWalked() {
        CarriedGate gate = check.told("14n/1;g14.9*,g14n0,g8s0,p20.0,g20n0,p20.0", 6);
        gate.hours(1);
        check.due("8 from beside to ahead", gate.of(1, 4), 0);
        check.due("8 from ahead to beside", gate.of(2, 4), 1);
        check.due("8 a sheep, if the one before it has come to be beside", gate.of(3, 4), 2);
        check.due("8 from behind to beside", gate.of(4, 4), 1);
        CarriedGate sheep = check.told("14n/1;g14.9*,g14n0,p20.0", 3);
        check.due("8 a sheep, if the one before it has come to be ahead", sheep.then(2, 1, 1), 0);
        CarriedGate sworn = check.told("14n/1;g14.9*,s20n0,s14s0", 3);
        check.due("8 a sworn one, come to be beside", sworn.then(1, 1, 1), 0);
        check.due("8 a sworn one, come to be behind", sworn.then(2, 1, 1), 1);
    }

    /** "Then .. THE BEARER is 1 less STRONG; at 0 it LIES, and nobody bears it": behind the rain of that HOUR. */
    private static void lastHourOfTheBearer() {
        CarriedGate gate = check.told("14n/63;s14.1*,g8.0", 2);
        check.due("8 nobody is in behind it", gate.hours(1), 0);
        check.due("8 strong by 0", gate.of(0, 3), 0);
        check.due("8 it lies", gate.count(3), NONE);
        check.due("8 the gate stays there", gate.count(1), 14);
        check.due("8 and looks as before", gate.count(2), 0);
        check.due("8 all were in in that hour", gate.count(7), 0);
        gate.hours(1);
        check.due("8 none in the next", gate.count(7), 2);
        CarriedGate two = check.told("14n/63;s14.2*,g8.0", 2);
        check.due("8 at 1 it stands", two.hours(1), 3);
        check.due("8 at 1 it stands", two.count(3), 0);
        check.due("8 at 0 it lies", two.hours(1), 0);
    }

    /** "all others are 1 more STRONG (20 at most)", and who bore it until then is none of the others in that HOUR. */
    private static void oneMoreStrongTwentyAtMost() {
        CarriedGate gate = check.told("14n;s14.1*,g8.0,g8.18,g8.19,g8.20", 5);
        int[][] want = {{0, 1, 19, 20, 20}, {1, 2, 20, 20, 20}, {2, 3, 20, 20, 20}};
        for (int hour = 0; hour < 3; hour++) {
            gate.hours(1);
            for (int one = 0; one < 5; one++) check.due("8 strong of " + one + " behind hour " + hour, gate.of(one, 3), want[hour][one]);
        }
        gate.hours(40);
        for (int one = 0; one < 5; one++) check.due("8 20 at most", gate.of(one, 3), 20);
        check.due("11 lifted", gate.hand(0), NONE);
        gate.hours(19);
        check.due("8 19 hours less strong", gate.of(0, 3), 1);
        check.due("8 it stands", gate.count(3), 0);
        gate.hours(1);
        check.due("8 20 hours less strong", gate.count(3), NONE);
    }

    /** "THE BEARER is STRONG by 2 or more; 1 less STRONG then". */
    private static void strongByTwoOrMore() {
        for (int strong = 1; strong <= 20; strong++) {
            CarriedGate gate = check.told("14n;g14." + strong + "*", 1);
            int times = 0;
            while (times < 30 && gate.carry(times % 2 == 0 ? 1 : 3) >= 0) times++;
            check.due("9 carried so often by " + strong, times, strong - 1);
            check.due("9 strong by 1 then", gate.of(0, 3), 1);
            check.due("9 it stands", gate.count(3), 0);
            check.due("9 not strong enough", gate.carry(times % 2 == 0 ? 1 : 3), NOT);
        }
    }

    /** "to one who is STRONG by 1 or more, FAR by 1 at most (and not THE BEARER)". */
    private static void handedOrLifted() {
        for (int at : new int[] {0, 5, 14, 30, 35}) {
            for (int cell = 0; cell < 36; cell++) {
                CarriedGate lies = check.told(at + "n;g" + cell + ".1", 1);
                check.due("11 lifted at " + at + " from " + cell, lies.hand(0), far(at, cell) <= 1 ? NONE : NOT);
                check.due("11 where", lies.of(0, 1), far(at, cell) <= 1 ? at : cell);
                check.due("11 who", lies.count(3), far(at, cell) <= 1 ? 0 : NONE);
                CarriedGate stands = check.told(at + "n;s" + at + ".5*,g" + cell + ".1", 2);
                check.due("11 handed at " + at + " to " + cell, stands.hand(1), far(at, cell) <= 1 ? 0 : NOT);
                check.due("11 where", stands.of(1, 1), far(at, cell) <= 1 ? at : cell);
                check.due("11 who", stands.count(3), far(at, cell) <= 1 ? 1 : 0);
            }
        }
        check.due("11 lifted, strong by 0", check.told("14n;g14.0", 1).hand(0), NOT);
        check.due("11 handed, strong by 0", check.told("14n;g14.5*,g14.0", 2).hand(1), NOT);
        check.due("11 lifted, strong by 20", check.told("14n;g14.20", 1).hand(0), NONE);
        CarriedGate bearer = check.told("14n;g14.20*,g14.1", 2);
        check.due("11 the bearer", bearer.hand(0), NOT);
        check.due("11 the other one", bearer.hand(1), 0);
        check.due("11 back", bearer.hand(0), 1);
        check.due("11 no weaker", bearer.of(0, 3), 20);
    }

    /** "TURNED: it LOOKS another DIRECTION", "LAID down: it LIES", "SENT: one WALKS another DIRECTION (or none)". */
    private static void turnedLaidSent() {
        for (int from = 0; from < 4; from++) {
            for (int to = 0; to < 4; to++) {
                CarriedGate gate = check.told("14" + LOOKS.charAt(from) + ";g14.5*,g8.0,g15.0,g20.0,g13.0", 5);
                check.due("10 from " + from + " to " + to, gate.turn(to), from == to ? NOT : 2 << to);
                check.due("10 looks", gate.count(2), to);
                check.due("10 to be undone", gate.count(8), from == to ? 0 : 1);
            }
        }
        CarriedGate laid = check.told("14n;g0.0,g14e5*", 2);
        check.due("12 who bore it", laid.lay(), 1);
        check.due("12 it lies", laid.lay(), NOT);
        check.due("12 stays", laid.of(1, 1), 14);
        check.due("12 lies at once", laid.lies(), 0);
        String walks = "nesw.";
        for (int from = 0; from < 5; from++) {
            for (int to = 0; to < 5; to++) {
                CarriedGate gate = check.told("14n;g14" + walks.charAt(from) + "5*", 1);
                check.due("13 from " + from + " to " + to, gate.send(0, to), from == to ? NOT : from);
                check.due("13 walks", gate.of(0, 2), to);
                check.due("13 to be undone", gate.count(8), from == to ? 0 : 1);
            }
        }
        CarriedGate rain = new CarriedGate();
        check.due("14 it is so", rain.rain(0), NOT);
        check.due("14 the most", rain.rain(63), 0);
        check.due("14 it is so", rain.rain(63), NOT);
        check.due("14 the least", rain.rain(0), 63);
    }

    /** "FULL: the HOUR would be above 9999" (hours and drift), with rain by the last HOURS modulo 6. */
    private static void hoursUpTo9999() {
        CarriedGate gate = check.told("14n;g20.0", 1);
        for (int i = 0; i < 249; i++) gate.hours(40);
        check.due("8 40 more would be 10000", gate.hours(40), FULL);
        check.due("15 40 more would be 10000", gate.drift(40), FULL);
        check.due("8 the hour stays", gate.count(5), 9960);
        check.due("8 38 more", gate.hours(38), 0);
        check.due("8 two more would be 10000", gate.hours(2), FULL);
        // 9998 leaves 2 by 6.
        gate.rain(1 << 2);
        check.due("21 rain in hour 9998", gate.wet(1), 1);
        check.due("8 one more", gate.hours(1), 0);
        check.due("8 the last hour", gate.count(5), 9999);
        check.due("8 wet", gate.count(7), 1);
        check.due("8 none more", gate.hours(1), FULL);
        check.due("15 none more", gate.drift(1), FULL);
        check.due("21 foretold all the same", gate.wet(40), 1 + 6);
        check.due("16 undone", gate.undo(), 7);
        check.due("15 one more by drift", gate.drift(1), 0);
        check.due("15 the last hour", gate.count(5), 9999);
        check.tell(gate, "0n", 0);
        check.due("6 hour 0 again", gate.hours(40), 0);
    }
}
