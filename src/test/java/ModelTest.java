import java.util.Random;

/** Runs of drawn calls on the program and on the model: every answer must be the same. All promises. */
public final class ModelTest {
    private static final Check check = new Check();
    private static final int RUNS = 1500, CALLS = 500;
    private static final int[] ODD = {-1, 0, 1, 7, 8, 9, 23, 24, 25, 35, 36, 40, 41, 63, 64, 255, 256, Integer.MIN_VALUE, Integer.MAX_VALUE};

    private final Random random;
    private final CarriedGate gate = new CarriedGate();
    private final Model model = new Model();

    private ModelTest(long seed) {
        random = new Random(seed);
    }

    public static void main(String[] args) {
        for (int run = 0; run < RUNS; run++) new ModelTest(20261118L + run).run();
        check.end("ModelTest");
    }

    private void run() {
        int calls = 0;
        if (random.nextInt(4) > 0) calls += tell(text());
        while (calls < CALLS - 60) {
            if (random.nextInt(60) == 0) {
                String text = text();
                if (random.nextInt(3) == 0) text = spoil(text);
                calls += tell(text);
            } else {
                calls += call(random.nextInt(37));
            }
        }
    }

    private int tell(String text) {
        for (int i = 0; i < text.length(); i++) check.due("type", gate.type(text.charAt(i)), model.type(text.charAt(i)));
        check.due("plain() of \"" + text + "\"", gate.plain(), model.plain());
        return text.length() + 1;
    }

    private String text() {
        StringBuilder text = new StringBuilder();
        int cell = random.nextInt(36);
        text.append(cell).append("nesw".charAt(random.nextInt(4)));
        if (random.nextBoolean()) text.append('/').append(random.nextInt(64));
        int people = random.nextInt(9);
        int bearer = random.nextInt(people + 1);
        for (int one = 0; one < people; one++) {
            text.append(one == 0 ? ';' : ',').append("gsthp".charAt(random.nextInt(5)));
            text.append(one == bearer ? cell : random.nextInt(36)).append("nesw.".charAt(random.nextInt(5)));
            text.append(one == bearer ? 1 + random.nextInt(20) : random.nextInt(21));
            if (one == bearer) text.append('*');
        }
        return text.toString();
    }

    private String spoil(String text) {
        StringBuilder spoilt = new StringBuilder(text);
        for (int times = 1 + random.nextInt(3); times > 0; times--) {
            int place = random.nextInt(spoilt.length() + 1);
            char letter = "0123456789nesw/;,gthp.* #x".charAt(random.nextInt(26));
            int how = random.nextInt(4);
            if (how == 0) spoilt.insert(place, letter);
            else if (how == 1) spoilt.insert(place, ' ');
            else if (how == 2 && place < spoilt.length()) spoilt.setCharAt(place, letter);
            else if (place < spoilt.length()) spoilt.deleteCharAt(place);
        }
        return spoilt.length() > 90 ? spoilt.substring(0, 90) : spoilt.toString();
    }

    /** Mostly a number below the bound, now and then another one. */
    private int number(int bound) {
        return random.nextInt(25) == 0 ? ODD[random.nextInt(ODD.length)] : random.nextInt(bound);
    }

    private int one() {
        return number(Math.max(1, model.world.people.size()));
    }

    private int some() {
        if (random.nextInt(3) == 0) return model.ahead(random.nextInt(5));
        return number(1 << model.world.people.size());
    }

    private int call(int which) {
        int a = 0, b = 0, c = 0, d = 0, e = 0, f = 0;
        String name = "";
        int got = 0, want = 0;
        switch (which) {
            case 0: a = number(5); b = number(36); c = number(21); name = "person"; got = gate.person(a, b, c); want = model.person(a, b, c); break;
            case 1: a = one(); b = number(8); name = "of"; got = gate.of(a, b); want = model.of(a, b); break;
            case 2: a = number(36); name = "side"; got = gate.side(a); want = model.side(a); break;
            case 3: name = "state"; return state();
            case 4: a = number(9); name = "count"; got = gate.count(a); want = model.count(a); break;
            case 5: a = 1 + number(random.nextInt(4) == 0 ? 40 : 3); name = "hours"; got = gate.hours(a); want = model.hours(a); break;
            case 6: a = number(4); name = "carry"; got = gate.carry(a); want = model.carry(a); break;
            case 7: a = number(4); name = "turn"; got = gate.turn(a); want = model.turn(a); break;
            case 8: a = one(); name = "hand"; got = gate.hand(a); want = model.hand(a); break;
            case 9: name = "lay"; if (random.nextInt(4) > 0) return 0; got = gate.lay(); want = model.lay(); break;
            case 10: a = one(); b = number(5); name = "send"; got = gate.send(a, b); want = model.send(a, b); break;
            case 11: a = number(64); name = "rain"; got = gate.rain(a); want = model.rain(a); break;
            case 12: a = 1 + number(random.nextInt(4) == 0 ? 40 : 3); name = "drift"; got = gate.drift(a); want = model.drift(a); break;
            case 13: name = "undo"; got = gate.undo(); want = model.undo(); break;
            case 14: a = random.nextInt(); name = "seed"; got = gate.seed(a); want = model.seed(a); break;
            case 15: a = number(41); name = "ahead"; got = gate.ahead(a); want = model.ahead(a); break;
            case 16: a = one(); b = number(41); c = number(3); name = "then"; got = gate.then(a, b, c); want = model.then(a, b, c); break;
            case 17: name = "lies"; got = gate.lies(); want = model.lies(); break;
            case 18: a = number(41); name = "wet"; got = gate.wet(a); want = model.wet(a); break;
            case 19: a = 1 + number(40); b = number(2); name = "facing"; got = gate.facing(a, b); want = model.facing(a, b); break;
            case 20: a = some(); b = number(3); name = "room"; got = gate.room(a, b); want = model.room(a, b); break;
            case 21: a = some(); b = number(3); name = "nearest"; got = gate.nearest(a, b); want = model.nearest(a, b); break;
            case 22: a = 1 + number(40); name = "hinge"; got = gate.hinge(a); want = model.hinge(a); break;
            case 23: a = number(6); name = "duel"; got = gate.duel(a); want = model.duel(a); break;
            case 24: a = some(); b = number(2); name = "stood"; got = gate.stood(a, b); want = model.stood(a, b); break;
            case 25: a = number(36); b = number(4); c = number(3); name = "field"; got = gate.field(a, b, c); want = model.field(a, b, c); break;
            case 26:
                a = one(); b = number(random.nextBoolean() ? 100 : 9); c = number(7); d = number(11); e = number(2);
                name = "dry"; got = gate.dry(a, b, c, d, e); want = model.dry(a, b, c, d, e); break;
            case 27: name = "image"; if (random.nextInt(3) > 0) return 0; got = gate.image(); want = model.image(); break;
            case 28: name = "restore"; if (random.nextInt(3) > 0) return 0; got = gate.restore(); want = model.restore(); break;
            case 29: return film();
            case 30: a = number(4); b = number(4); c = number(25); name = "sheet"; got = gate.sheet(a, b, c); want = model.sheet(a, b, c); break;
            case 31: a = number(4); name = "drop"; if (random.nextInt(4) > 0) return 0; got = gate.drop(a); want = model.drop(a); break;
            case 32:
                a = number(4); b = number(4); c = number(24); long v = random.nextBoolean() ? random.nextLong() : random.nextInt(512) - 128;
                name = "item"; got = gate.item(a, b, c, v); want = model.item(a, b, c, v); break;
            case 33:
                a = number(4); b = number(12); c = random.nextInt(3) == 0 ? a : number(4); d = number(12); e = number(12);
                name = "copy"; got = gate.copy(a, b, c, d, e); want = model.copy(a, b, c, d, e); break;
            default:
                a = one(); b = number(4); c = number(4); d = number(20); e = 1 + number(8); f = number(3);
                name = "seen"; got = gate.seen(a, b, c, d, e, f); want = model.seen(a, b, c, d, e, f); break;
        }
        check.due(name + " " + a + " " + b + " " + c + " " + d + " " + e + " " + f, got, want);
        return 1;
    }

    /** A film, looked at again by what is seen, now and then some hours later. */
    private int film() {
        int sheet = number(4), lane = number(4), n = 1 + number(24), i = number(4), length = number(25);
        if (random.nextInt(4) > 0) check.due("sheet", gate.sheet(sheet, lane, length), model.sheet(sheet, lane, length));
        check.due("film", gate.film(n, sheet, lane, i), model.film(n, sheet, lane, i));
        int later = random.nextInt(3);
        if (later > 0) check.due("hours", gate.hours(later), model.hours(later));
        for (int what = 0; what < 3; what++) {
            int one = one(), many = 1 + number(8);
            check.due("seen", gate.seen(one, sheet, lane, i + later, many, what), model.seen(one, sheet, lane, i + later, many, what));
        }
        return 6;
    }

    private int state() {
        for (int what = 0; what < 9; what++) check.due("count " + what, gate.count(what), model.count(what));
        int one = one();
        for (int what = 0; what < 8; what++) check.due("of " + one + " " + what, gate.of(one, what), model.of(one, what));
        return 17;
    }
}
