/** What the tests share: it compares answers, prints those that are not due, and ends the test. */
final class Check {
    private int wrong = 0;
    private int asked = 0;

    void due(String call, long got, long want) {
        asked++;
        if (got == want) return;
        wrong++;
        if (wrong <= 50) System.out.println(call + " answered " + got + ", due is " + want);
    }

    /** A new object on which a plain was told. */
    CarriedGate told(String text, int people) {
        CarriedGate gate = new CarriedGate();
        tell(gate, text, people);
        return gate;
    }

    void tell(CarriedGate gate, String text, int want) {
        for (int i = 0; i < text.length(); i++) due("type in \"" + text + "\"", gate.type(text.charAt(i)), i + 1);
        due("plain() of \"" + text + "\"", gate.plain(), want);
    }

    void end(String name) {
        System.out.println(name + ": " + asked + " answers, " + wrong + " not as due");
        if (wrong != 0) System.exit(1);
    }
}
