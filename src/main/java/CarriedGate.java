/**
 * A plain of six rows of six cells with one gate on it, people who walk about, rain, and what can be
 * foretold of them. The document of the project says what each call answers.
 */
public final class CarriedGate {
    public static final int BAD = -1, NOT = -2, FULL = -3, NONE = -4, NULL = -11, CAST = -12, INDEX = -13, SIZE = -14;

    private static final int SIDE = 6, CELLS = 36, LOOKS = 4, KINDS = 5, WALKS = 5;
    private static final int NORTH = 0, EAST = 1, SOUTH = 2, WEST = 3, STILL = 4;
    private static final int GUEST = 0, SWORN = 1, STRANGER = 2, SHY = 3, SHEEP = 4;
    private static final int AHEAD = 0, BESIDE = 1, BEHIND = 2;
    private static final int MOST_PEOPLE = 8, MOST_STRONG = 20, MOST_WET = 99, MOST_RAIN = 63;
    private static final int MOST_HOURS = 40, LAST_HOUR = 9999, RAIN_ROUND = 6, TOO_FAR = 4;
    private static final int MOST_TURNS = 5, MOST_ODDS_HOURS = 6, ODDS = 10, HINGE_ZERO = 10000;
    private static final int SHEETS = 4, LANES = 4, MOST_ITEMS = 24, MOST_SEEN = 8;
    private static final int OFF_PLAIN = -1, FINE = 0;

    private final Plain now = new Plain();
    /** What is foretold is played out here, so that now stays as it is. */
    private final Plain later = new Plain();
    private final Past past = new Past();
    private final Plain imageNow = new Plain();
    private final Past imagePast = new Past();
    private boolean hasImage = false;
    private final Tape tape = new Tape();
    private final Sheet[] sheets = new Sheet[SHEETS];
    private final Placing best = new Placing();
    private final int[] duelCounts = new int[LOOKS];
    private final int[] duelBefore = new int[LOOKS];

    public CarriedGate() {
        for (int i = 0; i < SHEETS; i++) sheets[i] = new Sheet();
    }

    // ---- 1 people, the gate

    public int person(int kind, int cell, int strong) {
        if (!isBelow(kind, KINDS) || !isBelow(cell, CELLS) || !isBelow(strong, MOST_STRONG + 1)) return BAD;
        if (now.people >= MOST_PEOPLE) return FULL;
        past.forgetAll();
        return now.addPerson(kind, cell, STILL, strong);
    }

    public int of(int one, int what) {
        if (!now.hasPerson(one)) return BAD;
        switch (what) {
            case 0: return now.kinds[one];
            case 1: return now.cells[one];
            case 2: return now.walks[one];
            case 3: return now.strengths[one];
            case 4: return now.wets[one];
            case 5: return oneIf(now.isIn(one));
            case 6: return now.farOf(one);
            case 7: return now.sideOf(now.cells[one]);
            default: return BAD;
        }
    }

    public int side(int cell) {
        return isBelow(cell, CELLS) ? now.sideOf(cell) : BAD;
    }

    public int type(int letter) {
        if (letter < Tape.FIRST_LETTER || letter > Tape.LAST_LETTER) return BAD;
        return tape.addLetter((char) letter) ? tape.length : FULL;
    }

    public int plain() {
        int fault = tape.readPlain(later);
        tape.length = 0;
        if (fault != FINE) return fault;
        later.draw = now.draw;
        now.becomeLike(later);
        past.forgetAll();
        return now.people;
    }

    public int count(int what) {
        switch (what) {
            case 0: return now.people;
            case 1: return now.gate;
            case 2: return now.look;
            case 3: return now.bearer;
            case 4: return now.rains;
            case 5: return now.hour;
            case 6: return now.whoIsIn();
            case 7: return now.allWet();
            case 8: return past.size;
            default: return BAD;
        }
    }

    // ---- what is done

    public int hours(int n) {
        if (n < 1 || n > MOST_HOURS) return BAD;
        if (now.hour + n > LAST_HOUR) return FULL;
        for (int i = 0; i < n; i++) {
            past.keep(now);
            now.passHour();
        }
        return now.whoIsIn();
    }

    public int carry(int direction) {
        if (!isBelow(direction, LOOKS)) return BAD;
        if (!now.canCarry(direction)) return NOT;
        past.keep(now);
        now.carryGate(direction);
        return now.gate;
    }

    public int turn(int direction) {
        if (!isBelow(direction, LOOKS)) return BAD;
        if (now.look == direction) return NOT;
        past.keep(now);
        now.look = direction;
        return now.whoIsIn();
    }

    public int hand(int one) {
        if (!now.hasPerson(one)) return BAD;
        if (!now.canTake(one)) return NOT;
        past.keep(now);
        int was = now.bearer;
        now.bearer = one;
        now.cells[one] = now.gate;
        return was;
    }

    public int lay() {
        if (!now.stands()) return NOT;
        past.keep(now);
        int was = now.bearer;
        now.bearer = NONE;
        return was;
    }

    public int send(int one, int direction) {
        if (!now.hasPerson(one) || !isBelow(direction, WALKS)) return BAD;
        int was = now.walks[one];
        if (was == direction) return NOT;
        past.keep(now);
        now.walks[one] = direction;
        return was;
    }

    public int rain(int hours) {
        if (!isBelow(hours, MOST_RAIN + 1)) return BAD;
        int was = now.rains;
        if (was == hours) return NOT;
        past.keep(now);
        now.rains = hours;
        return was;
    }

    public int drift(int n) {
        if (n < 1 || n > MOST_HOURS) return BAD;
        if (now.hour + n > LAST_HOUR) return FULL;
        for (int i = 0; i < n; i++) {
            past.keep(now);
            now.sendByDraw();
            now.passHour();
        }
        return now.whoIsIn();
    }

    public int undo() {
        return past.giveBack(now) ? past.size : NONE;
    }

    public int seed(int v) {
        if (v < 0) return BAD;
        int was = now.draw;
        now.draw = v;
        return was;
    }

    // ---- 2 foretold

    public int ahead(int n) {
        if (!isBelow(n, MOST_HOURS + 1)) return BAD;
        foretell(n);
        return later.whoIsIn();
    }

    public int then(int one, int n, int what) {
        if (!now.hasPerson(one) || !isBelow(n, MOST_HOURS + 1) || !isBelow(what, 3)) return BAD;
        foretell(n);
        if (what == 0) return later.cells[one];
        if (what == 1) return later.wets[one];
        return oneIf(later.bearer == one);
    }

    public int lies() {
        later.becomeLike(now);
        for (int n = 0; n <= MOST_HOURS; n++) {
            if (!later.stands()) return n;
            later.passHour();
        }
        return NONE;
    }

    public int wet(int n) {
        if (!isBelow(n, MOST_HOURS + 1)) return BAD;
        foretell(n);
        return later.allWet();
    }

    public int facing(int n, int what) {
        if (n < 1 || n > MOST_HOURS || !isBelow(what, 2)) return BAD;
        int bestLook = 0;
        int least = wetIfLooking(0, n);
        for (int look = 1; look < LOOKS; look++) {
            int much = wetIfLooking(look, n);
            if (much < least) {
                least = much;
                bestLook = look;
            }
        }
        return what == 0 ? bestLook : least;
    }

    public int room(int some, int what) {
        if (!now.isSet(some) || !isBelow(what, 3)) return BAD;
        if (!now.stands()) return NONE;
        findBestPlacing(some);
        if (best.others != 0) return NONE;
        if (what == 0) return best.deeds;
        return what == 1 ? best.cell : best.look;
    }

    public int nearest(int some, int what) {
        if (!now.isSet(some) || !isBelow(what, 3)) return BAD;
        if (!now.stands()) return NONE;
        findBestPlacing(some);
        if (what == 0) return Integer.bitCount(best.others);
        return what == 1 ? best.others : best.deeds;
    }

    public int hinge(int n) {
        if (n < 1 || n > MOST_HOURS) return BAD;
        foretell(n);
        int borne = later.allWet();
        later.becomeLike(now);
        later.bearer = NONE;
        later.passHours(n);
        return later.allWet() - borne + HINGE_ZERO;
    }

    public int duel(int n) {
        if (!isBelow(n, MOST_TURNS + 1)) return BAD;
        if (!now.stands()) return 0;
        countInByLook();
        // The last turn is judged first: what a turn is worth hangs on the turns behind it.
        for (int turn = n - 1; turn >= 0; turn--) judgeTurn(turn % 2 == 0);
        return isBelow(now.look, LOOKS) ? duelCounts[now.look] : 0;
    }

    public int stood(int some, int what) {
        if (!now.isSet(some) || !isBelow(what, 2)) return BAD;
        later.becomeLike(now);
        int many = 0;
        int first = NONE;
        for (int place = 0; place < CELLS * LOOKS; place++) {
            later.gate = place / LOOKS;
            later.look = place % LOOKS;
            if (later.whoIsLetIn() == some) {
                many++;
                if (first == NONE) first = place;
            }
        }
        return what == 0 ? many : first;
    }

    public int field(int cell, int face, int what) {
        if (!isBelow(cell, CELLS) || !isBelow(face, LOOKS) || !isBelow(what, 3)) return BAD;
        if (what == 0) return openCells(cell, face);
        if (what == 1) return openPeople(cell, face);
        return oneIf(areTwoRooms(cell, face));
    }

    public int dry(int one, int v, int n, int c, int what) {
        if (!now.hasPerson(one) || !isBelow(v, MOST_WET + 1) || !isBelow(n, MOST_ODDS_HOURS + 1)) return BAD;
        if (!isBelow(c, ODDS + 1) || !isBelow(what, 2)) return BAD;
        int inHours = hoursIn(one, n);
        int above = 0;
        int below = 1;
        for (int i = 0; i < n; i++) below *= ODDS;
        for (int rains = 0; rains < 1 << n; rains++) {
            if (wetBehind(one, n, rains & ~inHours) <= v) above += oddsOf(rains, n, c);
        }
        int shared = greatestShared(above, below);
        if (shared == 0) return BAD;
        return (what == 0 ? above : below) / shared;
    }

    public int image() {
        imageNow.becomeLike(now);
        imagePast.becomeLike(past);
        hasImage = true;
        return 1;
    }

    public int restore() {
        if (!hasImage) return NONE;
        now.becomeLike(imageNow);
        past.becomeLike(imagePast);
        return 1;
    }

    // ---- 3 sheets

    public int seen(int one, int sheet, int lane, int i, int n, int what) {
        if (!now.hasPerson(one) || !isBelow(sheet, SHEETS) || !isBelow(lane, LANES)) return BAD;
        if (n < 1 || n > MOST_SEEN || !isBelow(what, 3)) return BAD;
        int refusal = sheets[sheet].refusalOf(lane, i, n);
        if (refusal != FINE) return refusal;
        int guesses = what == 0 ? KINDS : what == 1 ? WALKS : LOOKS;
        int fitting = 0;
        for (int guess = 0; guess < guesses; guess++) {
            later.becomeLike(now);
            if (what == 0) later.kinds[one] = guess;
            else if (what == 1) later.walks[one] = guess;
            else later.look = guess;
            if (laterIsAsTold(sheets[sheet], i, n)) fitting |= 1 << guess;
        }
        return fitting;
    }

    public int film(int n, int sheet, int lane, int i) {
        if (n < 1 || n > MOST_ITEMS || !isBelow(sheet, SHEETS) || !isBelow(lane, LANES)) return BAD;
        int refusal = sheets[sheet].refusalOf(lane, i, n);
        if (refusal != FINE) return refusal;
        later.becomeLike(now);
        for (int k = 0; k < n; k++) {
            later.passHour();
            sheets[sheet].putItem(i + k, later.whoIsIn());
        }
        return n;
    }

    public int sheet(int sheet, int lane, int n) {
        if (!isBelow(sheet, SHEETS) || !isBelow(lane, LANES) || n > MOST_ITEMS) return BAD;
        if (n < 0) return SIZE;
        sheets[sheet].becomeNew(lane, n);
        return n;
    }

    public int drop(int sheet) {
        if (!isBelow(sheet, SHEETS)) return BAD;
        if (!sheets[sheet].isThere) return NULL;
        sheets[sheet].isThere = false;
        return sheets[sheet].length;
    }

    public int item(int sheet, int lane, int i, long v) {
        if (!isBelow(sheet, SHEETS) || !isBelow(lane, LANES)) return BAD;
        int refusal = sheets[sheet].refusalOf(lane, i, 1);
        if (refusal != FINE) return refusal;
        sheets[sheet].putItem(i, v);
        return 1;
    }

    public int copy(int from, int i, int to, int j, int n) {
        if (!isBelow(from, SHEETS) || !isBelow(to, SHEETS)) return BAD;
        Sheet source = sheets[from];
        Sheet target = sheets[to];
        if (!source.isThere || !target.isThere) return NULL;
        if (source.lane != target.lane) return CAST;
        if (!source.hasItems(i, n) || !target.hasItems(j, n)) return INDEX;
        System.arraycopy(source.items, i, target.items, j, n);
        return n;
    }

    // ---- helpers of the calls

    private static boolean isBelow(int number, int bound) {
        return number >= 0 && number < bound;
    }

    private static int oneIf(boolean so) {
        return so ? 1 : 0;
    }

    private void foretell(int n) {
        later.becomeLike(now);
        later.passHours(n);
    }

    private int wetIfLooking(int look, int n) {
        later.becomeLike(now);
        later.look = look;
        later.passHours(n);
        return later.allWet();
    }

    /** Cells and looks are tried from the least on, so of like placings the first one stays. */
    private void findBestPlacing(int some) {
        later.becomeLike(now);
        best.forgetAll();
        int bearer = now.bearer;
        if (!now.hasPerson(bearer)) return;
        for (int cell = 0; cell < CELLS; cell++) {
            int steps = Plain.farBetween(now.gate, cell);
            if (steps > now.strengths[bearer] - 1) continue;
            later.gate = cell;
            later.cells[bearer] = cell;
            for (int look = 0; look < LOOKS; look++) {
                later.look = look;
                best.offer(later.whoIsIn() ^ some, steps + oneIf(look != now.look), cell, look);
            }
        }
    }

    private void countInByLook() {
        later.becomeLike(now);
        for (int look = 0; look < LOOKS; look++) {
            later.look = look;
            duelCounts[look] = Integer.bitCount(later.whoIsIn());
        }
    }

    private void judgeTurn(boolean wantsMany) {
        System.arraycopy(duelCounts, 0, duelBefore, 0, LOOKS);
        for (int look = 0; look < LOOKS; look++) {
            int right = duelBefore[(look + 1) % LOOKS];
            int left = duelBefore[(look + LOOKS - 1) % LOOKS];
            int stay = duelBefore[look];
            duelCounts[look] = wantsMany ? Math.max(stay, Math.max(right, left)) : Math.min(stay, Math.min(right, left));
        }
    }

    private boolean isAheadOfGate(int cell) {
        return now.stands() && now.sideOf(cell) == AHEAD;
    }

    private boolean isOpen(int cell, int secondGate, int face) {
        return !isAheadOfGate(cell) && Plain.sideBetween(secondGate, face, cell) != AHEAD;
    }

    private int openCells(int secondGate, int face) {
        int many = 0;
        for (int cell = 0; cell < CELLS; cell++) {
            if (isOpen(cell, secondGate, face)) many++;
        }
        return many;
    }

    private int openPeople(int secondGate, int face) {
        int some = 0;
        for (int one = 0; one < now.people; one++) {
            if (isOpen(now.cells[one], secondGate, face)) some |= 1 << one;
        }
        return some;
    }

    private boolean areTwoRooms(int secondGate, int face) {
        for (int cell = 0; cell < CELLS; cell++) {
            if (isAheadOfGate(cell) && Plain.sideBetween(secondGate, face, cell) == AHEAD) return false;
        }
        return true;
    }

    /** The hours (a set) of the next n in which one is in: rain changes nothing of that. */
    private int hoursIn(int one, int n) {
        later.becomeLike(now);
        int inHours = 0;
        for (int i = 0; i < n; i++) {
            // Who gets wet is settled ahead of the bearer's growing tired.
            later.walkAll();
            if (later.isIn(one)) inHours |= 1 << i;
            later.tireAndRest();
        }
        return inHours;
    }

    private int wetBehind(int one, int n, int wetHours) {
        int wet = now.wets[one];
        for (int i = 0; i < n; i++) {
            if ((wetHours >> i & 1) == 1) wet = Plain.wetterOf(now.kinds[one], wet);
        }
        return wet;
    }

    /** How many of ten to the n-th cases have rain in just these hours. */
    private static int oddsOf(int rains, int n, int c) {
        int cases = 1;
        for (int i = 0; i < n; i++) cases *= (rains >> i & 1) == 1 ? c : ODDS - c;
        return cases;
    }

    private static int greatestShared(int a, int b) {
        int high = a;
        int low = b;
        for (int i = 0; i < 1000 && low != 0; i++) {
            int rest = high % low;
            high = low;
            low = rest;
        }
        return high;
    }

    private boolean laterIsAsTold(Sheet told, int i, int n) {
        for (int k = 0; k < n; k++) {
            later.passHour();
            if (!told.tells(i + k, later.whoIsIn())) return false;
        }
        return true;
    }

    /** The gate, the people, the rain, the hour and the draw, as they are at one time. */
    private static final class Plain {
        private static final int DRAW_TIMES = 1103515245, DRAW_MORE = 12345, DRAW_BITS = 0x7fffffff;
        private static final int DRAW_ONE = 65536, DRAW_WALK = 128;

        int gate = 14;
        int look = NORTH;
        /** NONE: the gate lies. */
        int bearer = NONE;
        int rains = 0;
        int hour = 0;
        int draw = 1;
        int people = 0;
        final int[] kinds = new int[MOST_PEOPLE];
        final int[] cells = new int[MOST_PEOPLE];
        final int[] walks = new int[MOST_PEOPLE];
        final int[] strengths = new int[MOST_PEOPLE];
        final int[] wets = new int[MOST_PEOPLE];

        void becomeLike(Plain other) {
            gate = other.gate;
            look = other.look;
            bearer = other.bearer;
            rains = other.rains;
            hour = other.hour;
            draw = other.draw;
            people = other.people;
            System.arraycopy(other.kinds, 0, kinds, 0, MOST_PEOPLE);
            System.arraycopy(other.cells, 0, cells, 0, MOST_PEOPLE);
            System.arraycopy(other.walks, 0, walks, 0, MOST_PEOPLE);
            System.arraycopy(other.strengths, 0, strengths, 0, MOST_PEOPLE);
            System.arraycopy(other.wets, 0, wets, 0, MOST_PEOPLE);
        }

        /** The number of the one who came, or FULL. */
        int addPerson(int kind, int cell, int walk, int strong) {
            int one = people;
            if (one < 0 || one >= MOST_PEOPLE) return FULL;
            kinds[one] = kind;
            cells[one] = cell;
            walks[one] = walk;
            strengths[one] = strong;
            wets[one] = 0;
            people++;
            return one;
        }

        boolean hasPerson(int one) {
            return one >= 0 && one < people && one < MOST_PEOPLE;
        }

        boolean isSet(int some) {
            return some >= 0 && some < 1 << people;
        }

        boolean stands() {
            return bearer >= 0;
        }

        static int farBetween(int from, int to) {
            return Math.abs(from / SIDE - to / SIDE) + Math.abs(from % SIDE - to % SIDE);
        }

        /** Whether a cell is AHEAD of a gate at a cell that looks so, BESIDE or BEHIND it. */
        static int sideBetween(int gate, int look, int cell) {
            int south = cell / SIDE - gate / SIDE;
            int east = cell % SIDE - gate % SIDE;
            int onward = look == NORTH ? -south : look == EAST ? east : look == SOUTH ? south : -east;
            if (onward == 0) return BESIDE;
            return onward > 0 ? AHEAD : BEHIND;
        }

        static int stepFrom(int cell, int direction) {
            switch (direction) {
                case NORTH: return cell / SIDE > 0 ? cell - SIDE : OFF_PLAIN;
                case EAST: return cell % SIDE < SIDE - 1 ? cell + 1 : OFF_PLAIN;
                case SOUTH: return cell / SIDE < SIDE - 1 ? cell + SIDE : OFF_PLAIN;
                case WEST: return cell % SIDE > 0 ? cell - 1 : OFF_PLAIN;
                default: return cell;
            }
        }

        int farOf(int one) {
            return farBetween(gate, cells[one]);
        }

        int sideOf(int cell) {
            return sideBetween(gate, look, cell);
        }

        /** Whether one is in, if the gate stands; each kind leans on the one above it, as in the document. */
        private boolean isLetIn(int one) {
            int side = sideBetween(gate, look, cells[one]);
            boolean asGuest = side == AHEAD;
            boolean asSworn = asGuest || side == BESIDE;
            boolean asStranger = asGuest && farBetween(gate, cells[one]) < TOO_FAR;
            switch (kinds[one]) {
                case GUEST: return asGuest;
                case SWORN: return asSworn;
                case STRANGER: return asStranger;
                case SHY: return asSworn && cells[one] != gate;
                case SHEEP: return asStranger || one > 0 && sideBetween(gate, look, cells[one - 1]) == AHEAD;
                default: return false;
            }
        }

        boolean isIn(int one) {
            return stands() && isLetIn(one);
        }

        int whoIsLetIn() {
            int some = 0;
            for (int one = 0; one < people; one++) {
                if (isLetIn(one)) some |= 1 << one;
            }
            return some;
        }

        int whoIsIn() {
            return stands() ? whoIsLetIn() : 0;
        }

        int allWet() {
            int sum = 0;
            for (int one = 0; one < people; one++) sum += wets[one];
            return sum;
        }

        /** How wet one of a kind is behind an hour in the rain, who was so wet ahead of it. */
        static int wetterOf(int kind, int wet) {
            int more = kind == STRANGER || kind == SHEEP ? 2 : 1;
            if (kind == SHEEP && wet % 2 == 1) more /= 2;
            return Math.min(wet + more, MOST_WET);
        }

        void passHours(int n) {
            for (int i = 0; i < n; i++) passHour();
        }

        void passHour() {
            walkAll();
            if ((rains >> hour % RAIN_ROUND & 1) == 1) rainOnAll();
            tireAndRest();
            hour++;
        }

        void walkAll() {
            for (int one = 0; one < people; one++) {
                if (one == bearer || walks[one] == STILL) continue;
                int next = stepFrom(cells[one], walks[one]);
                if (next == OFF_PLAIN) walks[one] = (walks[one] + 2) % LOOKS;
                else cells[one] = next;
            }
        }

        private void rainOnAll() {
            for (int one = 0; one < people; one++) {
                if (!stands() || !isLetIn(one)) wets[one] = wetterOf(kinds[one], wets[one]);
            }
        }

        void tireAndRest() {
            int tired = bearer;
            for (int one = 0; one < people; one++) {
                if (one != tired) strengths[one] = Math.min(strengths[one] + 1, MOST_STRONG);
            }
            if (!hasPerson(tired)) return;
            strengths[tired]--;
            if (strengths[tired] <= 0) bearer = NONE;
        }

        void sendByDraw() {
            draw = draw * DRAW_TIMES + DRAW_MORE & DRAW_BITS;
            if (people <= 0) return;
            int one = draw / DRAW_ONE % people;
            if (hasPerson(one)) walks[one] = draw / DRAW_WALK % WALKS;
        }

        boolean canCarry(int direction) {
            return hasPerson(bearer) && strengths[bearer] >= 2 && stepFrom(gate, direction) != OFF_PLAIN;
        }

        void carryGate(int direction) {
            if (!canCarry(direction)) return;
            gate = stepFrom(gate, direction);
            cells[bearer] = gate;
            strengths[bearer]--;
        }

        boolean canTake(int one) {
            return one != bearer && strengths[one] >= 1 && farOf(one) <= 1;
        }
    }

    /** The plain as it was ahead of each of the latest deeds, in a ring. */
    private static final class Past {
        private static final int MOST = 8;

        private final Plain[] ring = new Plain[MOST];
        private int oldest = 0;
        int size = 0;

        Past() {
            for (int i = 0; i < MOST; i++) ring[i] = new Plain();
        }

        void keep(Plain plain) {
            ring[(oldest + size) % MOST].becomeLike(plain);
            if (size < MOST) size++;
            else oldest = (oldest + 1) % MOST;
        }

        /** False: nothing is known. */
        boolean giveBack(Plain plain) {
            if (size <= 0) return false;
            size--;
            plain.becomeLike(ring[(oldest + size) % MOST]);
            return true;
        }

        void forgetAll() {
            size = 0;
        }

        void becomeLike(Past other) {
            oldest = other.oldest;
            size = other.size;
            for (int i = 0; i < MOST; i++) ring[i].becomeLike(other.ring[i]);
        }
    }

    /** The best of the places and looks that were offered for the gate. */
    private static final class Placing {
        /** Who is in or not other than told (a set). */
        int others = 0;
        int deeds = 0;
        int cell = 0;
        int look = 0;
        private boolean isEmpty = true;

        void forgetAll() {
            isEmpty = true;
        }

        void offer(int newOthers, int newDeeds, int newCell, int newLook) {
            if (!isEmpty && !isBetter(newOthers, newDeeds)) return;
            isEmpty = false;
            others = newOthers;
            deeds = newDeeds;
            cell = newCell;
            look = newLook;
        }

        private boolean isBetter(int newOthers, int newDeeds) {
            int difference = Integer.bitCount(newOthers) - Integer.bitCount(others);
            return difference < 0 || difference == 0 && newDeeds < deeds;
        }
    }

    /** The typed letters, and the reading of a plain from them. */
    private static final class Tape {
        static final int FIRST_LETTER = 32, LAST_LETTER = 126;
        private static final int MOST_LETTERS = 90, FIRST_FAULT = -20;
        private static final char BLANK = ' ', END = 0;
        private static final String LOOK_LETTERS = "nesw", WALK_LETTERS = "nesw.", KIND_LETTERS = "gsthp";

        private final char[] letters = new char[MOST_LETTERS];
        int length = 0;
        private int place = 0;
        /** The first fault that was found; FINE: none yet. */
        private int fault = FINE;

        /** False: the tape is full. */
        boolean addLetter(char letter) {
            if (length < 0 || length >= MOST_LETTERS) return false;
            letters[length] = letter;
            length++;
            return true;
        }

        /** FINE, or the fault, with the plain half read then. */
        int readPlain(Plain plain) {
            place = 0;
            fault = FINE;
            plain.people = 0;
            plain.bearer = NONE;
            plain.hour = 0;
            plain.gate = readNumber(CELLS - 1);
            plain.look = readLetter(LOOK_LETTERS);
            plain.rains = skips('/') ? readNumber(MOST_RAIN) : 0;
            if (skips(';')) readPeople(plain);
            if (peek() != END) failAt(place);
            return fault;
        }

        private void readPeople(Plain plain) {
            for (int i = 0; i < MOST_PEOPLE; i++) {
                readPerson(plain);
                // Behind the last one that there may be, a comma is left for readPlain to refuse.
                if (fault != FINE || i == MOST_PEOPLE - 1 || !skips(',')) return;
            }
        }

        private void readPerson(Plain plain) {
            int kind = readLetter(KIND_LETTERS);
            int cell = readNumber(CELLS - 1);
            int walk = readLetter(WALK_LETTERS);
            int strong = readNumber(MOST_STRONG);
            if (fault != FINE) return;
            int one = plain.addPerson(kind, cell, walk, strong);
            if (peek() != '*') return;
            if (plain.stands() || strong < 1 || cell != plain.gate) {
                failAt(place);
                return;
            }
            place++;
            plain.bearer = one;
        }

        private void failAt(int where) {
            if (fault == FINE) fault = FIRST_FAULT - where;
        }

        /** The next letter behind blanks, which stays the next one. */
        private char peek() {
            while (place < length && letterAt(place) == BLANK) place++;
            return letterAt(place);
        }

        private char letterAt(int where) {
            return where >= 0 && where < length && where < MOST_LETTERS ? letters[where] : END;
        }

        private boolean skips(char letter) {
            if (fault != FINE || peek() != letter) return false;
            place++;
            return true;
        }

        /** Which of these letters is the next one. */
        private int readLetter(String some) {
            if (fault != FINE) return 0;
            int which = some.indexOf(peek());
            if (which < 0) {
                failAt(place);
                return 0;
            }
            place++;
            return which;
        }

        private int readNumber(int most) {
            if (fault != FINE) return 0;
            if (!isDigit(peek())) {
                failAt(place);
                return 0;
            }
            int first = place;
            int number = letterAt(place) - '0';
            place++;
            if (isDigit(letterAt(place))) {
                number = 10 * number + letterAt(place) - '0';
                place++;
            }
            if (number > most) failAt(first);
            return number;
        }

        private static boolean isDigit(char letter) {
            return letter >= '0' && letter <= '9';
        }
    }

    /** A row of a lane, or nothing; its items are held as longs, cut to the lane. */
    private static final class Sheet {
        private static final int BYTES = 0, SHORTS = 1, INTS = 2;

        boolean isThere = false;
        int lane = 0;
        int length = 0;
        final long[] items = new long[MOST_ITEMS];

        void becomeNew(int newLane, int newLength) {
            isThere = true;
            lane = newLane;
            length = newLength;
            for (int i = 0; i < MOST_ITEMS; i++) items[i] = 0;
        }

        /** Why n items from i on can't be taken as of a lane; FINE: they can. */
        int refusalOf(int asLane, int i, int n) {
            if (!isThere) return NULL;
            if (lane != asLane) return CAST;
            return hasItems(i, n) ? FINE : INDEX;
        }

        boolean hasItems(int i, int n) {
            return i >= 0 && n >= 0 && n <= length && i <= length - n;
        }

        void putItem(int i, long v) {
            if (hasItems(i, 1)) items[i] = cutToLane(v);
        }

        /** Whether an item is this set, by as many bits as the lane has. */
        boolean tells(int i, int some) {
            return hasItems(i, 1) && items[i] == cutToLane(some);
        }

        private long cutToLane(long v) {
            switch (lane) {
                case BYTES: return (byte) v;
                case SHORTS: return (short) v;
                case INTS: return (int) v;
                default: return v;
            }
        }
    }
}
