/** What the tests share: it compares answers, prints those that are not due, and ends the test. */
final class Check {
    private int wrong = 0;
    private int asked = 0;

    void due(String call, long got, long want) {
        asked++;
        if (got == want) return;
        wrong++;
        if (wrong <= 50) System.out.println(call + " answered " + got + ", due is " + want);
    }

    void isSo(String what, boolean so) {
        due(what, so ? 1 : 0, 1);
    }

    /** A new object on which a plain was told. */
    CarriedGate told(String text, int people) {
        CarriedGate gate = new CarriedGate();
        tell(gate, text, people);
        return gate;
    }

    void tell(CarriedGate gate, String text, int want) {
        for (int i = 0; i < text.length(); i++) due("type in \"" + text + "\"", gate.type(text.charAt(i)), i + 1);
        due("plain() of \"" + text + "\"", gate.plain(), want);
    }

    /** A sheet that holds a new row of a lane with these items. */
    void put(CarriedGate gate, int sheet, int lane, long... items) {
        due("34 sheet", gate.sheet(sheet, lane, items.length), items.length);
        for (int i = 0; i < items.length; i++) due("36 item", gate.item(sheet, lane, i, items[i]), 1);
    }

    /** What an object tells of itself by calls that change nothing, and the draw, which is put back. */
    static int[] state(CarriedGate gate) {
        int[] all = new int[9 + 8 * 8 + 2];
        for (int what = 0; what < 9; what++) all[what] = gate.count(what);
        for (int one = 0; one < 8; one++) {
            for (int what = 0; what < 8; what++) all[9 + 8 * one + what] = gate.of(one, what);
        }
        all[9 + 64] = gate.seed(0);
        gate.seed(all[9 + 64]);
        all[9 + 65] = gate.wet(40);
        return all;
    }

    void isAsBefore(String call, CarriedGate gate, int[] before) {
        int[] after = state(gate);
        for (int i = 0; i < before.length; i++) due(call + ": as before, number " + i + " of the state", after[i], before[i]);
    }

    void end(String name) {
        System.out.println(name + ": " + asked + " answers, " + wrong + " not as due");
        if (wrong != 0) System.exit(1);
    }
}
