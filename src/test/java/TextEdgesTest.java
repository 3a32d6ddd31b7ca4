/**
 * Promises 5 and 6: THE TAPE and the TEXT of a PLAIN. Each sentence of the document about the text that names an edge
 * has a test, named by its words.
 */
public final class TextEdgesTest {
    private static final Check check = new Check();
    private static final String DIGITS = "0123456789";

    public static void main(String[] args) {
        whichLettersCanStandWhere();
        aNumberIsAsTold();
        aThirdDigit();
        blanksEndANumber();
        blanksCountForNothing();
        theEnd();
        perhapsRain();
        oneToEightPeople();
        perhapsTheBearer();
        ofTwoFaultsTheFirst();
        theTapeHas90();
        inPlaceOfAll();
        allElseStays();
        check.end("TextEdgesTest");
    }

    private static void fault(String text, int place) {
        check.tell(new CarriedGate(), text, -20 - place);
    }

    private static int read(String text) {
        CarriedGate gate = new CarriedGate();
        for (int i = 0; i < text.length(); i++) gate.type(text.charAt(i));
        return gate.plain();
    }

    /** "the place of the first letter (behind blanks) that can't stand there": every letter behind each part of a text. */
    private static void whichLettersCanStandWhere() {
        String[] behind = {"", "1", "14", "14n", "14n/", "14n/4", "14n/45", "14n;", "14n;g", "14n;g1", "14n;g14", "14n;g14.", "14n;g14.1",
            "14n;g14.12", "14n;g14.1*", "14n;g14.1,", "14n/3;g14.1*,s0n0"};
        String[] fitting = {DIGITS, DIGITS + "nesw", "nesw", "/;", DIGITS, DIGITS + ";", ";", "gsthp", DIGITS, DIGITS + "nesw.", "nesw.", DIGITS,
            DIGITS + "*,", "*,", ",", "gsthp", DIGITS + ","};
        check.due("as many", fitting.length, behind.length);
        for (int i = 0; i < behind.length; i++) {
            for (int letter = 33; letter <= 126; letter++) {
                boolean fits = fitting[i].indexOf(letter) >= 0;
                int place = behind[i].length();
                int answer = read(behind[i] + (char) letter);
                String what = "6 '" + (char) letter + "' behind \"" + behind[i] + "\" answered " + answer;
                if (!fits) check.isSo(what, answer == -20 - place);
                else check.isSo(what, answer != -20 - place);
                if (fits || DIGITS.indexOf(letter) >= 0) continue;
                // Behind blanks the letter is no better, and its own place is told.
                check.due("6 '" + (char) letter + "' behind \"" + behind[i] + "\" and blanks", read(behind[i] + "  " + (char) letter), -22 - place);
            }
        }
    }

    /** "a number 0 .. 35", "0 .. 63", "0 .. 20": each number of one and of two digits; the fault is at its first digit. */
    private static void aNumberIsAsTold() {
        for (int number = 0; number <= 99; number++) {
            String[] ways = number < 10 ? new String[] {"" + number, "0" + number} : new String[] {"" + number};
            for (String way : ways) {
                check.due("6 the gate at " + way, read(way + "n"), number <= 35 ? 0 : -20);
                check.due("6 rain " + way, read("14n/" + way), number <= 63 ? 0 : -24);
                check.due("6 one at " + way, read("14n;g" + way + "n1"), number <= 35 ? 1 : -25);
                check.due("6 strong by " + way, read("14n;g1n" + way), number <= 20 ? 1 : -27);
            }
        }
        CarriedGate gate = check.told("35w/63;p35.20", 1);
        check.due("6 the gate", gate.count(1), 35);
        check.due("6 rain", gate.count(4), 63);
        check.due("6 the cell", gate.of(0, 1), 35);
        check.due("6 strong", gate.of(0, 3), 20);
        CarriedGate least = check.told("00n/00;g00n00", 1);
        check.due("6 the gate", least.count(1), 0);
        check.due("6 rain", least.count(4), 0);
        check.due("6 the cell", least.of(0, 1), 0);
        check.due("6 strong", least.of(0, 3), 0);
    }

    /** "Numbers have 1 or 2 digits (a third one can't stand there)"; "of both the first digit's". */
    private static void aThirdDigit() {
        fault("000n", 2);
        fault("014n", 2);
        fault("350n", 2);
        fault("360n", 0);
        fault("999n", 0);
        fault("14n/063", 6);
        fault("14n/630", 6);
        fault("14n/640", 4);
        fault("14n;g035n1", 7);
        fault("14n;g350n1", 7);
        fault("14n;g360n1", 5);
        fault("14n;g1n020", 9);
        fault("14n;g1n200", 9);
        fault("14n;g1n210", 7);
        fault("0000000000n", 2);
    }

    /** "blanks .. end a number". */
    private static void blanksEndANumber() {
        fault("1 4n", 2);
        fault("3  6n", 3);
        fault("14n/6 3", 6);
        fault("14n/4 5;g1n1", 6);
        fault("14n;g1 4n1", 7);
        fault("14n;g1n2 0", 9);
        fault("36 n", 0);
        check.told("4 n", 0);
        check.told("14 n", 0);
        check.told("14n/6 ;g1n2 ,s3n4 ", 2);
    }

    /** "blanks count for nothing": anywhere but inside a number, and the places of faults count them as letters. */
    private static void blanksCountForNothing() {
        String[] parts = {"14", "n", "/", "45", ";", "g", "14", ".", "9", "*", ",", "p", "0", "w", "20"};
        for (int place = 0; place <= parts.length; place++) {
            StringBuilder text = new StringBuilder();
            for (int i = 0; i < parts.length; i++) text.append(i == place ? "   " : "").append(parts[i]);
            if (place == parts.length) text.append("   ");
            CarriedGate gate = check.told(text.toString(), 2);
            int[] want = {2, 14, 0, 0, 45};
            for (int what = 0; what < want.length; what++) check.due("6 count(" + what + ") with blanks", gate.count(what), want[what]);
            check.due("6 strong, with blanks", gate.of(1, 3), 20);
            check.due("6 walks, with blanks", gate.of(1, 2), 3);
        }
        fault("  x", 2);
        fault("  36n", 2);
        fault(" 14 n ; g 1 x", 12);
        fault(" 14 n / 64", 8);
        fault("14n ;  g1n1  *", 13);
    }

    /** "the end: how many there are". */
    private static void theEnd() {
        String whole = "14n/45;g14.9*,p0w2";
        int[] open = {0, 1, 2, 4, 7, 8, 9, 10, 11, 14, 15, 16, 17};
        for (int many : open) fault(whole.substring(0, many), many);
        int[] closed = {3, 5, 6, 12, 13, 18};
        int[] people = {0, 0, 0, 1, 1, 2};
        for (int i = 0; i < closed.length; i++) check.told(whole.substring(0, closed[i]), people[i]);
        fault("   ", 3);
        fault("14  ", 4);
        fault("14n/ ", 5);
        fault("14n; ", 5);
        fault("14n;g1n ", 8);
        fault("14n;g1n1, ", 10);
    }

    /** "then perhaps / and a number 0 .. 63 (RAIN; else 0)": once, and ahead of PEOPLE. */
    private static void perhapsRain() {
        CarriedGate gate = check.told("14n/63", 0);
        check.due("6 rain", gate.count(4), 63);
        check.tell(gate, "14n", 0);
        check.due("6 else 0", gate.count(4), 0);
        gate.rain(5);
        check.tell(gate, "14n;g1n1", 1);
        check.due("6 else 0", gate.count(4), 0);
        fault("14n/1/1", 5);
        fault("14n;g1n1/1", 8);
        fault("14/1n", 2);
        fault("14n/-1", 4);
    }

    /** "1 to 8 PEOPLE with , between": none, eight, nine; a comma that nobody can come behind can't stand there. */
    private static void oneToEightPeople() {
        fault("14n;", 4);
        fault("14n;,", 4);
        fault("14n;g1n1,,g1n1", 9);
        fault("14n;g1n1;g1n1", 8);
        fault("14n;g1n1 g1n1", 9);
        StringBuilder text = new StringBuilder("14n");
        for (int many = 1; many <= 8; many++) {
            text.append(many == 1 ? ';' : ',').append("gsthp".charAt(many % 5)).append(many).append("nesw.".charAt(many % 5)).append(many);
            CarriedGate gate = check.told(text.toString(), many);
            check.due("6 people", gate.count(0), many);
            for (int one = 0; one < many; one++) {
                check.due("6 kind", gate.of(one, 0), (one + 1) % 5);
                check.due("6 cell", gate.of(one, 1), one + 1);
                check.due("6 walks", gate.of(one, 2), (one + 1) % 5);
                check.due("6 strong", gate.of(one, 3), one + 1);
            }
        }
        fault(text + ",", text.length());
        fault(text + ",g1n1", text.length());
        fault(text + " , g1n1", text.length() + 1);
        fault(text + ";", text.length());
    }

    /** "perhaps * (THE BEARER: one at most, STRONG by 1 or more, who is at the CELL of THE GATE, else it can't stand there)". */
    private static void perhapsTheBearer() {
        check.due("6 strong by 1", check.told("14n;g14.1*", 1).count(3), 0);
        check.due("6 strong by 20", check.told("14n;g14.20*", 1).count(3), 0);
        check.due("6 the second of three", check.told("14n;g14.9,s14w3*,g14.9", 3).count(3), 1);
        check.due("6 the eighth", check.told("0n;g1n0,g1n0,g1n0,g1n0,g1n0,g1n0,g1n0,p0n1*", 8).count(3), 7);
        check.due("6 nobody", check.told("14n;g14.9,s14w3", 2).count(3), CarriedGate.NONE);
        fault("14n;g14.0*", 9);
        fault("14n;g14.00*", 10);
        fault("14n;g13.9*", 9);
        fault("14n;g8.9*", 8);
        fault("14n;g14.9*,s14.9*", 16);
        fault("14n;g14.9*,s13.0*", 16);
        fault("14n;g14.9**", 10);
        fault("14n;*", 4);
        fault("14n*", 3);
        fault("14n;g14*", 7);
        fault("14n;g14.*", 8);
        check.told("14n;g14.9 *", 1);
        fault("14n;g14.0 *", 10);
    }

    /** "of the first letter ..": what is wrong farther on is not told. */
    private static void ofTwoFaultsTheFirst() {
        fault("36x", 0);
        fault("x36", 0);
        fault("14x/64", 2);
        fault("14n/64;g36n21", 4);
        fault("14n;g36x21*", 5);
        fault("14n;g3x21*", 6);
        fault("14n;g3n21*", 7);
        fault("14n;g3n20*,x", 9);
        fault("14n;x3n21*", 4);
    }

    /** "FULL: 90", and faults up to the last place. */
    private static void theTapeHas90() {
        String blanks = " ".repeat(86);
        fault(blanks + "14n;", 90);
        fault(blanks + " 14x", 89);
        fault(blanks + "  36", 88);
        check.told(blanks + " 14n", 0);
        fault(" ".repeat(90), 90);
        String eight = "35w/63;g35n20,s35e20,t35s20,h35w20,p35.20,g35n20,s35e20,t35s20*";
        CarriedGate longest = check.told(" ".repeat(90 - eight.length()) + eight, 8);
        check.due("6 the bearer of a long text", longest.count(3), 7);
        CarriedGate gate = new CarriedGate();
        for (int i = 1; i <= 90; i++) check.due("5 so many", gate.type('1'), i);
        check.due("5 full", gate.type('1'), CarriedGate.FULL);
        check.due("5 full again", gate.type('1'), CarriedGate.FULL);
        check.due("6 a third digit", gate.plain(), -22);
        check.due("5 empty then", gate.type(' '), 1);
        check.due("6 a blank alone", gate.plain(), -21);
        check.due("6 empty", gate.plain(), -20);
    }

    /** "in place of all; nobody is WET, HOUR 0 (THE DRAW stays)", and nothing is left to be UNDONE. */
    private static void inPlaceOfAll() {
        CarriedGate gate = check.told("8w/63;p8.9*,g0e3,t3s4", 3);
        check.put(gate, 0, 1, 3, 4);
        gate.image();
        gate.seed(99);
        gate.hours(5);
        check.isSo("8 somebody is wet", gate.count(7) > 0);
        check.isSo("21 and would be wetter", gate.wet(40) > gate.count(7));
        check.tell(gate, "35s;t35s20,g0.1", 2);
        int[] want = {2, 35, 2, CarriedGate.NONE, 0, 0, 0, 0, 0};
        for (int what = 0; what < want.length; what++) check.due("6 count(" + what + ")", gate.count(what), want[what]);
        check.due("6 the third one is there no more", gate.of(2, 0), CarriedGate.BAD);
        for (int one = 0; one < 2; one++) check.due("6 nobody is wet", gate.of(one, 4), 0);
        check.due("6 nothing to be undone", gate.undo(), CarriedGate.NONE);
        check.due("6 the draw stays", gate.seed(99), 99);
        check.due("6 the sheets stay", gate.copy(0, 0, 0, 1, 1), 1);
        check.due("6 a new one comes behind those", gate.person(0, 0, 0), 2);
        check.due("31 the image stays", gate.restore(), 1);
        check.due("31 three", gate.count(0), 3);
        check.due("31 the draw of then", gate.seed(0), 1);
        // Also if nothing was foretold between the seed and the text.
        CarriedGate fresh = new CarriedGate();
        for (int draw : new int[] {0, 2, Integer.MAX_VALUE}) {
            fresh.seed(draw);
            check.tell(fresh, "14n;g14.5*", 1);
            check.due("6 the draw stays at once", fresh.seed(7), draw);
            check.tell(fresh, "14n;x", -24);
            check.due("6 the draw stays with a fault", fresh.seed(9), 7);
        }
    }

    /** "A FAULT (all else stays)": however much was read ahead of it. */
    private static void allElseStays() {
        String text = "0s/63;g0n20*,s1e1,t2s2,h3w3,p4.4,g5n5,s6e6,t7s7,x";
        CarriedGate gate = check.told("8w/21;p8.9*,g0e3", 2);
        gate.hours(2);
        gate.seed(5);
        int[] before = Check.state(gate);
        check.tell(gate, text, -20 - (text.length() - 2));
        check.isAsBefore("6 a fault", gate, before);
        check.due("6 undone as before", gate.undo(), 1);
        check.due("6 hour 1", gate.count(5), 1);
        check.due("6 the tape is empty", gate.type('0'), 1);
    }
}
