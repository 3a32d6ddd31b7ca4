import java.math.BigInteger;
import java.util.ArrayDeque;
import java.util.ArrayList;
import java.util.HashSet;
import java.util.List;
import java.util.Set;

/**
 * The document told a second time, by other means than the program: whole copies for what is foretold and undone,
 * deeds tried out for rooms, all weathers played for odds. Slow and plain on purpose.
 */
final class Model {
    static final int BAD = -1, NOT = -2, FULL = -3, NONE = -4, NULL = -11, CAST = -12, INDEX = -13, SIZE = -14;

    static class Guest {
        boolean in(World w, Person p) { return w.ahead(p.row, p.column); }
        int wetBy(Person p) { return 1; }
    }

    static class Sworn extends Guest {
        @Override boolean in(World w, Person p) { return super.in(w, p) || w.beside(p.row, p.column); }
    }

    static class Stranger extends Guest {
        @Override boolean in(World w, Person p) { return super.in(w, p) && !(w.far(p) >= 4); }
        @Override int wetBy(Person p) { return super.wetBy(p) + 1; }
    }

    static class Shy extends Sworn {
        @Override boolean in(World w, Person p) { return super.in(w, p) && !(p.row == w.row && p.column == w.column); }
    }

    static class Sheep extends Stranger {
        @Override boolean in(World w, Person p) {
            if (super.in(w, p)) return true;
            int number = w.people.indexOf(p);
            if (number == 0) return false;
            Person next = w.people.get(number - 1);
            return w.ahead(next.row, next.column);
        }
        @Override int wetBy(Person p) { return p.wet % 2 == 1 ? super.wetBy(p) / 2 : super.wetBy(p); }
    }

    static final Guest[] KINDS = {new Guest(), new Sworn(), new Stranger(), new Shy(), new Sheep()};
    static final int[] SOUTHWARD = {-1, 0, 1, 0, 0};
    static final int[] EASTWARD = {0, 1, 0, -1, 0};

    static final class Person {
        int kind;
        int row;
        int column;
        int walk = 4;
        int strong;
        int wet = 0;

        Person(int kind, int cell, int strong) {
            this.kind = kind;
            this.row = cell / 6;
            this.column = cell % 6;
            this.strong = strong;
        }

        Person again() {
            Person other = new Person(kind, 6 * row + column, strong);
            other.walk = walk;
            other.wet = wet;
            return other;
        }
    }

    static boolean onPlain(int row, int column) {
        return row >= 0 && row < 6 && column >= 0 && column < 6;
    }

    static final class World {
        int row = 2;
        int column = 2;
        int look = 0;
        Person bearer = null;
        List<Person> people = new ArrayList<>();
        int rain = 0;
        int hour = 0;
        long draw = 1;

        World again() {
            World w = new World();
            w.row = row;
            w.column = column;
            w.look = look;
            w.rain = rain;
            w.hour = hour;
            w.draw = draw;
            for (Person p : people) {
                Person q = p.again();
                w.people.add(q);
                if (p == bearer) w.bearer = q;
            }
            return w;
        }

        int toward(int r, int c) { return (r - row) * SOUTHWARD[look] + (c - column) * EASTWARD[look]; }
        boolean ahead(int r, int c) { return toward(r, c) > 0; }
        boolean beside(int r, int c) { return toward(r, c) == 0; }
        int side(int r, int c) { return ahead(r, c) ? 0 : beside(r, c) ? 1 : 2; }
        int far(Person p) { return Math.abs(p.row - row) + Math.abs(p.column - column); }
        boolean in(Person p) { return bearer != null && KINDS[p.kind].in(this, p); }

        int inSet() {
            int set = 0;
            for (int i = 0; i < people.size(); i++) if (in(people.get(i))) set += 1 << i;
            return set;
        }

        int allWet() {
            int sum = 0;
            for (Person p : people) sum += p.wet;
            return sum;
        }

        World later(int n) {
            World w = again();
            for (int i = 0; i < n; i++) w.anHour((w.rain & 1 << w.hour % 6) != 0);
            return w;
        }

        void anHour(boolean rains) {
            for (Person p : people) {
                if (p == bearer || p.walk == 4) continue;
                int r = p.row + SOUTHWARD[p.walk];
                int c = p.column + EASTWARD[p.walk];
                if (onPlain(r, c)) {
                    p.row = r;
                    p.column = c;
                } else {
                    p.walk = new int[] {2, 3, 0, 1}[p.walk];
                }
            }
            if (rains) for (Person p : people) if (!in(p)) p.wet = Math.min(99, p.wet + KINDS[p.kind].wetBy(p));
            for (Person p : people) {
                if (p == bearer) p.strong -= 1;
                else if (p.strong < 20) p.strong += 1;
            }
            if (bearer != null && bearer.strong == 0) bearer = null;
            hour++;
        }

        boolean carried(int direction) {
            if (bearer == null || bearer.strong < 2) return false;
            int r = row + SOUTHWARD[direction];
            int c = column + EASTWARD[direction];
            if (!onPlain(r, c)) return false;
            row = bearer.row = r;
            column = bearer.column = c;
            bearer.strong--;
            return true;
        }
    }

    World world = new World();
    ArrayDeque<World> past = new ArrayDeque<>();
    World image = null;
    ArrayDeque<World> imagePast = null;
    StringBuilder tape = new StringBuilder();
    Object[] sheets = new Object[4];

    private void keep() {
        past.addLast(world.again());
        if (past.size() > 8) past.removeFirst();
    }

    private static boolean outside(int n, int low, int high) { return n < low || n > high; }
    private boolean noOne(int one) { return outside(one, 0, world.people.size() - 1); }
    private boolean noSet(int some) { return outside(some, 0, (1 << world.people.size()) - 1); }
    private static int bit(boolean b) { return b ? 1 : 0; }

    int person(int kind, int cell, int strong) {
        if (outside(kind, 0, 4) || outside(cell, 0, 35) || outside(strong, 0, 20)) return BAD;
        if (world.people.size() == 8) return FULL;
        world.people.add(new Person(kind, cell, strong));
        past.clear();
        return world.people.size() - 1;
    }

    int of(int one, int what) {
        if (noOne(one) || outside(what, 0, 7)) return BAD;
        Person p = world.people.get(one);
        return new int[] {p.kind, 6 * p.row + p.column, p.walk, p.strong, p.wet, bit(world.in(p)), world.far(p), world.side(p.row, p.column)}[what];
    }

    int side(int cell) {
        return outside(cell, 0, 35) ? BAD : world.side(cell / 6, cell % 6);
    }

    int type(int letter) {
        if (outside(letter, 32, 126)) return BAD;
        if (tape.length() == 90) return FULL;
        tape.append((char) letter);
        return tape.length();
    }

    /** A number of at most two digits, or a sign; the end is the sign 0. */
    private record Token(int place, int number, char sign) { }

    private List<Token> tokens() {
        List<Token> all = new ArrayList<>();
        int i = 0;
        while (i < tape.length()) {
            char letter = tape.charAt(i);
            if (letter == ' ') {
                i++;
            } else if (Character.isDigit(letter)) {
                int end = i + 1 < tape.length() && Character.isDigit(tape.charAt(i + 1)) ? i + 2 : i + 1;
                all.add(new Token(i, Integer.parseInt(tape.substring(i, end)), '#'));
                i = end;
            } else {
                // A '#' that was typed is no number.
                all.add(new Token(i, -1, letter == '#' ? '?' : letter));
                i++;
            }
        }
        all.add(new Token(tape.length(), -1, (char) 0));
        return all;
    }

    int plain() {
        World w = new World();
        w.draw = world.draw;
        int state = 0;
        Person p = null;
        List<Token> all = tokens();
        tape.setLength(0);
        for (Token t : all) {
            int next = -1;
            boolean end = t.sign == 0;
            boolean number = t.sign == '#';
            int which;
            switch (state) {
                case 0 -> { if (number && t.number <= 35) { w.row = t.number / 6; w.column = t.number % 6; next = 1; } }
                case 1 -> { which = "nesw".indexOf(t.sign); if (which >= 0) { w.look = which; next = 2; } }
                case 2 -> { if (t.sign == '/') next = 3; else if (t.sign == ';') next = 5; else if (end) next = 99; }
                case 3 -> { if (number && t.number <= 63) { w.rain = t.number; next = 4; } }
                case 4 -> { if (t.sign == ';') next = 5; else if (end) next = 99; }
                case 5 -> {
                    which = "gsthp".indexOf(t.sign);
                    if (which >= 0) { p = new Person(which, 0, 0); w.people.add(p); next = 6; }
                }
                case 6 -> { if (number && t.number <= 35) { p.row = t.number / 6; p.column = t.number % 6; next = 7; } }
                case 7 -> { which = "nesw.".indexOf(t.sign); if (which >= 0) { p.walk = which; next = 8; } }
                case 8 -> { if (number && t.number <= 20) { p.strong = t.number; next = 9; } }
                default -> {
                    if (t.sign == ',' && w.people.size() < 8) next = 5;
                    else if (end) next = 99;
                    else if (t.sign == '*' && state == 9 && w.bearer == null && p.strong > 0 && w.far(p) == 0) { w.bearer = p; next = 10; }
                }
            }
            if (next == -1) return -20 - t.place;
            state = next;
        }
        world = w;
        past.clear();
        return w.people.size();
    }

    int count(int what) {
        if (outside(what, 0, 8)) return BAD;
        int bearer = world.bearer == null ? NONE : world.people.indexOf(world.bearer);
        return new int[] {world.people.size(), 6 * world.row + world.column, world.look, bearer, world.rain, world.hour, world.inSet(),
            world.allWet(), past.size()}[what];
    }

    int hours(int n) {
        if (outside(n, 1, 40)) return BAD;
        if (world.hour + n > 9999) return FULL;
        for (int i = 0; i < n; i++) {
            keep();
            world = world.later(1);
        }
        return world.inSet();
    }

    int carry(int direction) {
        if (outside(direction, 0, 3)) return BAD;
        World w = world.again();
        if (!w.carried(direction)) return NOT;
        keep();
        world = w;
        return 6 * w.row + w.column;
    }

    int turn(int direction) {
        if (outside(direction, 0, 3)) return BAD;
        if (world.look == direction) return NOT;
        keep();
        world.look = direction;
        return world.inSet();
    }

    int hand(int one) {
        if (noOne(one)) return BAD;
        Person p = world.people.get(one);
        if (p == world.bearer || p.strong == 0 || world.far(p) > 1) return NOT;
        keep();
        int was = count(3);
        world.bearer = p;
        p.row = world.row;
        p.column = world.column;
        return was;
    }

    int lay() {
        if (world.bearer == null) return NOT;
        keep();
        int was = count(3);
        world.bearer = null;
        return was;
    }

    int send(int one, int direction) {
        if (noOne(one) || outside(direction, 0, 4)) return BAD;
        int was = world.people.get(one).walk;
        if (was == direction) return NOT;
        keep();
        world.people.get(one).walk = direction;
        return was;
    }

    int rain(int set) {
        if (outside(set, 0, 63)) return BAD;
        int was = world.rain;
        if (was == set) return NOT;
        keep();
        world.rain = set;
        return was;
    }

    int drift(int n) {
        if (outside(n, 1, 40)) return BAD;
        if (world.hour + n > 9999) return FULL;
        for (int i = 0; i < n; i++) {
            keep();
            BigInteger next = BigInteger.valueOf(world.draw).multiply(BigInteger.valueOf(1103515245)).add(BigInteger.valueOf(12345));
            world.draw = next.mod(BigInteger.ONE.shiftLeft(31)).longValue();
            int many = world.people.size();
            if (many > 0) world.people.get((int) ((world.draw >> 16) % many)).walk = (int) ((world.draw >> 7) % 5);
            world = world.later(1);
        }
        return world.inSet();
    }

    int undo() {
        if (past.isEmpty()) return NONE;
        world = past.removeLast();
        return past.size();
    }

    int seed(int v) {
        if (v < 0) return BAD;
        int was = (int) world.draw;
        world.draw = v;
        return was;
    }

    int ahead(int n) {
        return outside(n, 0, 40) ? BAD : world.later(n).inSet();
    }

    int then(int one, int n, int what) {
        if (noOne(one) || outside(n, 0, 40) || outside(what, 0, 2)) return BAD;
        World w = world.later(n);
        Person p = w.people.get(one);
        return new int[] {6 * p.row + p.column, p.wet, bit(w.bearer == p)}[what];
    }

    int lies() {
        for (int n = 0; n <= 40; n++) if (world.later(n).bearer == null) return n;
        return NONE;
    }

    int wet(int n) {
        return outside(n, 0, 40) ? BAD : world.later(n).allWet();
    }

    int facing(int n, int what) {
        if (outside(n, 1, 40) || outside(what, 0, 1)) return BAD;
        int[] much = new int[4];
        for (int look = 0; look < 4; look++) {
            World w = world.again();
            w.look = look;
            much[look] = w.later(n).allWet();
        }
        int least = Math.min(Math.min(much[0], much[1]), Math.min(much[2], much[3]));
        for (int look = 0; look < 4; look++) if (much[look] == least) return what == 0 ? look : least;
        return NONE;
    }

    /** All that carrying and one turning reach, by fewest deeds: rows of deeds, cell, look, who is in. */
    private List<int[]> reached() {
        List<int[]> all = new ArrayList<>();
        Set<Integer> known = new HashSet<>();
        List<World> edge = new ArrayList<>();
        edge.add(world.again());
        for (int deeds = 0; !edge.isEmpty(); deeds++) {
            List<World> next = new ArrayList<>();
            for (World w : edge) {
                if (!known.add(4 * (6 * w.row + w.column) + w.look)) continue;
                all.add(new int[] {deeds, 6 * w.row + w.column, w.look, w.inSet()});
                for (int direction = 0; direction < 4; direction++) {
                    World carried = w.again();
                    if (carried.carried(direction)) next.add(carried);
                    World turned = w.again();
                    turned.look = direction;
                    if (w.look == world.look) next.add(turned);
                }
            }
            edge = next;
        }
        return all;
    }

    private int[] closest(int some) {
        int[] best = null;
        for (int[] r : reached()) {
            int[] key = {Integer.bitCount(r[3] ^ some), r[0], r[1], r[2], r[3] ^ some};
            if (best == null || java.util.Arrays.compare(key, best) < 0) best = key;
        }
        return best;
    }

    int room(int some, int what) {
        if (noSet(some) || outside(what, 0, 2)) return BAD;
        if (world.bearer == null) return NONE;
        int[] best = closest(some);
        return best[0] > 0 ? NONE : best[1 + what];
    }

    int nearest(int some, int what) {
        if (noSet(some) || outside(what, 0, 2)) return BAD;
        if (world.bearer == null) return NONE;
        int[] best = closest(some);
        return what == 0 ? best[0] : what == 1 ? best[4] : best[1];
    }

    int hinge(int n) {
        if (outside(n, 1, 40)) return BAD;
        World laid = world.again();
        laid.bearer = null;
        return 10000 + laid.later(n).allWet() - world.later(n).allWet();
    }

    int duel(int n) {
        return outside(n, 0, 5) ? BAD : play(world.again(), n, true);
    }

    private int play(World w, int turns, boolean many) {
        if (turns == 0) return Integer.bitCount(w.inSet());
        int best = many ? -1 : 99;
        for (int quarter = -1; quarter <= 1; quarter++) {
            World turned = w.again();
            turned.look = Math.floorMod(w.look + quarter, 4);
            int worth = play(turned, turns - 1, !many);
            best = many ? Math.max(best, worth) : Math.min(best, worth);
        }
        return best;
    }

    int stood(int some, int what) {
        if (noSet(some) || outside(what, 0, 1)) return BAD;
        List<Integer> places = new ArrayList<>();
        for (int cell = 0; cell < 36; cell++) {
            for (int look = 0; look < 4; look++) {
                World w = world.again();
                w.row = cell / 6;
                w.column = cell % 6;
                w.look = look;
                // Somebody who is none of the people bears it, so that it stands.
                w.bearer = new Person(0, 0, 1);
                if (w.inSet() == some) places.add(4 * cell + look);
            }
        }
        return what == 0 ? places.size() : places.isEmpty() ? NONE : places.get(0);
    }

    int field(int cell, int face, int what) {
        if (outside(cell, 0, 35) || outside(face, 0, 3) || outside(what, 0, 2)) return BAD;
        World second = new World();
        second.row = cell / 6;
        second.column = cell % 6;
        second.look = face;
        boolean[] open = new boolean[36];
        int cells = 0;
        int rooms = 1;
        for (int c = 0; c < 36; c++) {
            boolean a = world.bearer != null && world.ahead(c / 6, c % 6);
            boolean b = second.ahead(c / 6, c % 6);
            open[c] = !a && !b;
            if (open[c]) cells++;
            if (a && b) rooms = 0;
        }
        int set = 0;
        for (int i = 0; i < world.people.size(); i++) {
            Person p = world.people.get(i);
            if (open[6 * p.row + p.column]) set |= 1 << i;
        }
        return new int[] {cells, set, rooms}[what];
    }

    int dry(int one, int v, int n, int c, int what) {
        if (noOne(one) || outside(v, 0, 99) || outside(n, 0, 6) || outside(c, 0, 10) || outside(what, 0, 1)) return BAD;
        BigInteger above = weathers(world, one, v, n, c);
        BigInteger below = BigInteger.TEN.pow(n);
        BigInteger shared = above.gcd(below);
        return (what == 0 ? above : below).divide(shared).intValueExact();
    }

    private BigInteger weathers(World w, int one, int v, int n, int c) {
        if (n == 0) return w.people.get(one).wet <= v ? BigInteger.ONE : BigInteger.ZERO;
        World rained = w.again();
        rained.anHour(true);
        World fair = w.again();
        fair.anHour(false);
        return weathers(rained, one, v, n - 1, c).multiply(BigInteger.valueOf(c))
            .add(weathers(fair, one, v, n - 1, c).multiply(BigInteger.valueOf(10 - c)));
    }

    private static ArrayDeque<World> again(ArrayDeque<World> worlds) {
        ArrayDeque<World> all = new ArrayDeque<>();
        for (World w : worlds) all.addLast(w.again());
        return all;
    }

    int image() {
        image = world.again();
        imagePast = again(past);
        return 1;
    }

    int restore() {
        if (image == null) return NONE;
        world = image.again();
        past = again(imagePast);
        return 1;
    }

    private static Object row(int lane, int n) {
        return switch (lane) {
            case 0 -> new byte[n];
            case 1 -> new short[n];
            case 2 -> new int[n];
            default -> new long[n];
        };
    }

    private static int length(Object row) {
        return java.lang.reflect.Array.getLength(row);
    }

    private static void put(Object row, int i, long v) {
        if (row instanceof byte[] b) b[i] = (byte) v;
        else if (row instanceof short[] s) s[i] = (short) v;
        else if (row instanceof int[] k) k[i] = (int) v;
        else if (row instanceof long[] l) l[i] = v;
    }

    private int sheetRefusal(int sheet, int lane, long i, long n) {
        if (sheets[sheet] == null) return NULL;
        if (sheets[sheet].getClass() != row(lane, 0).getClass()) return CAST;
        return i < 0 || n < 0 || i + n > length(sheets[sheet]) ? INDEX : 0;
    }

    int seen(int one, int sheet, int lane, int i, int n, int what) {
        if (noOne(one) || outside(sheet, 0, 3) || outside(lane, 0, 3) || outside(n, 1, 8) || outside(what, 0, 2)) return BAD;
        int refusal = sheetRefusal(sheet, lane, i, n);
        if (refusal != 0) return refusal;
        int set = 0;
        for (int guess = 0; guess < (what == 2 ? 4 : 5); guess++) {
            World w = world.again();
            if (what == 0) w.people.get(one).kind = guess;
            if (what == 1) w.people.get(one).walk = guess;
            if (what == 2) w.look = guess;
            // A row of its own is filmed and laid beside the told one.
            Object filmed = row(lane, n);
            for (int k = 0; k < n; k++) put(filmed, k, w.later(k + 1).inSet());
            boolean same = true;
            for (int k = 0; k < n; k++) {
                same &= java.lang.reflect.Array.get(filmed, k).equals(java.lang.reflect.Array.get(sheets[sheet], i + k));
            }
            if (same) set |= 1 << guess;
        }
        return set;
    }

    int film(int n, int sheet, int lane, int i) {
        if (outside(n, 1, 24) || outside(sheet, 0, 3) || outside(lane, 0, 3)) return BAD;
        int refusal = sheetRefusal(sheet, lane, i, n);
        if (refusal != 0) return refusal;
        for (int k = 0; k < n; k++) put(sheets[sheet], i + k, world.later(k + 1).inSet());
        return n;
    }

    int sheet(int sheet, int lane, int n) {
        if (outside(sheet, 0, 3) || outside(lane, 0, 3) || n > 24) return BAD;
        if (n < 0) return SIZE;
        sheets[sheet] = row(lane, n);
        return n;
    }

    int drop(int sheet) {
        if (outside(sheet, 0, 3)) return BAD;
        if (sheets[sheet] == null) return NULL;
        int had = length(sheets[sheet]);
        sheets[sheet] = null;
        return had;
    }

    int item(int sheet, int lane, int i, long v) {
        if (outside(sheet, 0, 3) || outside(lane, 0, 3)) return BAD;
        int refusal = sheetRefusal(sheet, lane, i, 1);
        if (refusal != 0) return refusal;
        put(sheets[sheet], i, v);
        return 1;
    }

    int copy(int from, int i, int to, int j, int n) {
        if (outside(from, 0, 3) || outside(to, 0, 3)) return BAD;
        if (sheets[from] == null || sheets[to] == null) return NULL;
        if (sheets[from].getClass() != sheets[to].getClass()) return CAST;
        try {
            System.arraycopy(sheets[from], i, sheets[to], j, n);
        } catch (IndexOutOfBoundsException e) {
            return INDEX;
        }
        return n;
    }
}
