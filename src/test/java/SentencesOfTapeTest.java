/** Part 2 of the document, THE TAPE: the sentences on bytes, TOKENS, the text and its FAULTS, each at its edges. */
public final class SentencesOfTapeTest {
    private static final int BAD = OilTown.BAD, FULL = OilTown.FULL;
    private static final Due due = new Due("SentencesOfTapeTest");

    public static void main(String[] args) {
        eightBytesTheHighestFirst();
        bytesAboveSevenBits();
        keepsItsFirstBytes();
        readToItsLastByte();
        endOfAFullTape();
        emptyBehindOrders();
        tokensAsLongAsMayBe();
        blanksBetween();
        bytesNextToThoseThatAreLet();
        numbersOfOneToThreeFigures();
        namesThatAreNoneOfThese();
        oneSemicolon();
        fromShift();
        numbersAtTheirBounds();
        linesAsTheyAreTold();
        shutHasNoNumber();
        whatCannotStandThere();
        theEndCannotStandThere();
        theThirteenthLine();
        theThirteenthLineFirst();
        toldAlreadyFromTheSameShift();
        toldAlreadyOfExcept();
        toldAlreadyFirst();
        readWhenTheOneBeforeIsTaken();
        faultOfTheLatest();
        due.end();
    }

    /** What a new object answers: LINES, or a FAULT at a place. */
    private static void taken(String text, int lines) {
        OilTown x = new OilTown();
        due.is("orders of \"" + text + "\"", Due.orders(x, text), lines);
        due.is("fault of \"" + text + "\"", x.fault(), 0);
        due.is("LINES of \"" + text + "\"", x.count(6), lines);
    }

    private static void fault(String text, int fault, int place) {
        OilTown x = new OilTown();
        due.is("orders of \"" + text + "\"", Due.orders(x, text), -10 - place);
        due.is("fault of \"" + text + "\"", x.fault(), fault);
        due.is("LINES of \"" + text + "\"", x.count(6), 0);
    }

    /** "Eight bytes come behind THE TAPE, the highest first: how many it has." */
    private static void eightBytesTheHighestFirst() {
        OilTown x = new OilTown();
        due.is("feed", x.feed(0x736875743b6e6561L), 8);
        due.is("feed", x.feed(0x7220373b20202020L), 16);
        due.is("shut;near 7;", x.orders(), 2);
        due.is("line(0, 0)", x.line(0, 0), 4);
        due.is("line(1, 2)", x.line(1, 2), 7);
        for (int i = 0; i < 8; i++) {
            long blanks = 0x2020202020202020L;
            x.feed(blanks ^ 1L << 56 - 8 * i);
            due.is("byte " + i + " is 33", x.orders(), -10 - i);
        }
    }

    private static void bytesAboveSevenBits() {
        long[] fed = {-1L, Long.MIN_VALUE, Long.MAX_VALUE, 0L, 0xe13b3b3b3b3b3b3bL};
        for (long v : fed) {
            OilTown x = new OilTown();
            due.is("feed", x.feed(v), 8);
            due.is("its first byte is no TOKEN", x.orders(), -10);
            due.is("FAULT", x.fault(), 1);
        }
        String text = "near 1;";
        int[] place = {0, 0, 0, 0, 4, 5, 6};
        for (int i = 0; i < text.length(); i++) {
            // within the NAME, the part ahead of it is a NAME that is none of these
            char c = text.charAt(i);
            fault(text.replace(c, (char) (c + 128)), 1, place[i]);
        }
    }

    /** "THE TAPE keeps its first n bytes: how many it had." */
    private static void keepsItsFirstBytes() {
        OilTown x = new OilTown();
        due.is("0 of 0", x.end(0), 0);
        due.is("1 of 0", x.end(1), BAD);
        Due.feed(x, "near 1;apart 22;");
        due.is("17 of 16", x.end(17), BAD);
        due.is("16 of 16", x.end(16), 16);
        due.is("7 of 16", x.end(7), 16);
        due.is("8 of 7", x.end(8), BAD);
        due.is("7 of 7", x.end(7), 7);
        due.is("behind them", x.feed(0x656163682032323bL), 15);
        due.is("near 1;each 22;", x.orders(), 2);
        due.is("line(1, 2)", x.line(1, 2), 22);
        Due.feed(x, "near 1; shut");
        due.is("0 of 12", x.end(0), 12);
        due.is("none", x.orders(), 0);
    }

    private static String padded(String text, int length) {
        return " ".repeat(length - text.length()) + text;
    }

    /** "THE TAPE has 160 bytes, places from 0." */
    private static void readToItsLastByte() {
        taken(padded("near 9;", 160), 1);
        taken(padded("near 9;", 159), 1);
        taken("near" + padded("9;", 156), 1);
        taken("near 9;" + " ".repeat(153), 1);
        fault(padded("near 9;,", 160), 1, 159);
        fault(padded("near 9;;", 160), 2, 159);
        fault(padded("near 10", 160), 3, 158);
        fault(padded("near nea", 160), 1, 157);
        fault(";" + " ".repeat(159), 2, 0);
    }

    /** "(or the end: the length)". */
    private static void endOfAFullTape() {
        fault(padded("near 9", 160), 2, 160);
        fault(padded("near", 160), 2, 160);
        fault(padded("from", 160), 2, 160);
        fault(padded("from 9", 160), 2, 160);
        fault("shut" + " ".repeat(156), 2, 160);
    }

    /** "THE TAPE (empty then)". */
    private static void emptyBehindOrders() {
        OilTown x = new OilTown();
        Due.orders(x, padded("near 1;", 160));
        due.is("taken: empty", x.count(12), 0);
        due.is("its place 0 again", Due.orders(x, ";"), -10);
        due.is("refused: empty", x.count(12), 0);
        due.is("feed", x.feed(0), 8);
    }

    /** "TOKENS, each as long as may be". */
    private static void tokensAsLongAsMayBe() {
        taken("near9;", 1);
        taken("from9near9;shut;", 2);
        fault("near10;", 3, 4);
        fault("nearapart 1;", 1, 0);
        fault("shutshut;", 1, 0);
        fault("shut;nears 1;", 1, 5);
        fault("near 1000;", 1, 5);
        fault("near 1 0;", 2, 7);
        fault("near 1each", 2, 6);
        fault("n ear 1;", 1, 0);
        fault("from1 2near 3;", 2, 6);
    }

    /** "blanks (32) between". */
    private static void blanksBetween() {
        taken(" near 1;", 1);
        taken("near 1; ", 1);
        taken("near 1 ;", 1);
        taken("   from   2   near   3   ;   shut   ;   ", 2);
        taken(" ", 0);
        for (char c : new char[] {0, 9, 10, 13, 31, 33, 127, 128, 160, 255}) {
            fault("near" + c + "1;", 1, 4);
            fault(c + "near 1;", 1, 0);
            fault("near 1;" + c, 1, 7);
        }
    }

    /** "NAMES (a .. z), NUMBERS (1 to 3 figures), one ;": the bytes next to these are none. */
    private static void bytesNextToThoseThatAreLet() {
        for (char c : new char[] {'a' - 1, 'z' + 1, '0' - 1, '9' + 1, ';' + 1, 'A', 'N', 'Z', '@', '['}) {
            fault("shut;" + c, 1, 5);
            fault("near 1" + c, 1, 6);
            fault("near" + c + ";", 1, 4);
        }
        fault("a", 1, 0);
        fault("z", 1, 0);
        fault("0", 2, 0);
        fault("9", 2, 0);
        fault(";", 2, 0);
    }

    private static void numbersOfOneToThreeFigures() {
        for (String number : new String[] {"0", "9", "00", "10", "99", "000", "009", "099", "100", "999"}) {
            OilTown x = new OilTown();
            due.is("each " + number, Due.orders(x, "each " + number + ";"), 1);
            due.is("its NUMBER " + number, x.line(0, 2), Integer.parseInt(number));
        }
        fault("each 0000;", 1, 5);
        fault("each 0001;", 1, 5);
        fault("each 1000;", 1, 5);
        fault("each 9999999999999999999999;", 1, 5);
        fault("each 4294967297;", 1, 5);
        taken("near 009;", 1);
        fault("near 010;", 3, 5);
    }

    private static void namesThatAreNoneOfThese() {
        String[] names = {"near", "apart", "each", "acre", "shut", "except", "from"};
        for (String name : names) {
            fault(name + "a 1;", 1, 0);
            fault(name + "z 1;", 1, 0);
            fault("z" + name + " 1;", 1, 0);
            fault(name + "s 1;", 1, 0);
            fault("s" + name + " 1;", 1, 0);
            fault(name.substring(1) + " 1;", 1, 0);
            fault(name.substring(0, name.length() - 1) + " 1;", 1, 0);
            fault(name.substring(0, name.length() - 1) + "x 1;", 1, 0);
            fault("x" + name.substring(1) + " 1;", 1, 0);
        }
    }

    private static void oneSemicolon() {
        taken("shut;", 1);
        fault("shut;;", 2, 5);
        fault("shut; ;", 2, 6);
        fault("shut", 2, 4);
        fault("near 1 near 2;", 2, 7);
    }

    /** "from: a SHIFT (0 to 49; 0, if it is not told)". */
    private static void fromShift() {
        OilTown x = new OilTown();
        due.is("orders", Due.orders(x, "near 1; from 1 near 1; from 49 near 1; from 048 near 1;"), 4);
        int[] from = {0, 1, 49, 48};
        for (int k = 0; k < 4; k++) {
            due.is("line(" + k + ", 1)", x.line(k, 1), from[k]);
        }
        taken("from 0 near 1;", 1);
        taken("from 000 near 1;", 1);
        fault("from 50 near 1;", 3, 5);
        fault("from 99 near 1;", 3, 5);
        fault("from 999 near 1;", 3, 5);
        due.is("not told again behind one that is", Due.orders(x, "from 7 near 1; apart 2;"), 2);
        due.is("line(1, 1)", x.line(1, 1), 0);
    }

    /** "near, apart: 0 to 9. each, acre: 0 to 999. except: a PERSON's number (0 to 5)", of one that came or not. */
    private static void numbersAtTheirBounds() {
        String[] rules = {"near", "apart", "each", "acre", "except"};
        int[] most = {9, 9, 999, 999, 5};
        for (int i = 0; i < rules.length; i++) {
            taken(rules[i] + " 0;", 1);
            taken(rules[i] + " " + most[i] + ";", 1);
            int fault = most[i] + 1 > 999 ? 1 : 3;
            fault(rules[i] + " " + (most[i] + 1) + ";", fault, rules[i].length() + 1);
            fault("from 3 " + rules[i] + "   " + (most[i] + 1), fault, rules[i].length() + 10);
        }
    }

    private static void linesAsTheyAreTold() {
        OilTown x = new OilTown();
        due.is("orders", Due.orders(x, "from 9 except 5;shut;acre 999;each 0;from 49 apart 9;near 0;"), 6);
        int[][] want = {{5, 9, 5}, {4, 0, 0}, {3, 0, 999}, {2, 0, 0}, {1, 49, 9}, {0, 0, 0}};
        for (int k = 0; k < 6; k++) {
            for (int what = 0; what < 3; what++) {
                due.is("line(" + k + ", " + what + ")", x.line(k, what), want[k][what]);
            }
            due.is("not VOID", x.line(k, 3), 0);
        }
    }

    /** "2 its NUMBER (shut: 0)". */
    private static void shutHasNoNumber() {
        OilTown x = new OilTown();
        due.is("orders", Due.orders(x, "near 9; from 8 shut; apart 7;"), 3);
        due.is("of shut", x.line(1, 2), 0);
        due.is("of the next", x.line(2, 2), 7);
        fault("shut 0;", 2, 5);
    }

    /** "2 a TOKEN that can not stand there". */
    private static void whatCannotStandThere() {
        fault("1", 2, 0);
        fault("from from 1 shut;", 2, 5);
        fault("from ;", 2, 5);
        fault("from 1 2 shut;", 2, 7);
        fault("from 1 from 2 shut;", 2, 7);
        fault("from 1 ;", 2, 7);
        fault("near ;", 2, 5);
        fault("near shut;", 2, 5);
        fault("near from 1;", 2, 5);
        fault("near 1 1;", 2, 7);
        fault("near 1 from 1 shut;", 2, 7);
        fault("shut shut;", 2, 5);
        fault("shut from 1 shut;", 2, 5);
        fault("except shut;", 2, 7);
    }

    private static void theEndCannotStandThere() {
        fault("near", 2, 4);
        fault("near  ", 2, 6);
        fault("near 1", 2, 6);
        fault("near 1  ", 2, 8);
        fault("shut", 2, 4);
        fault("from", 2, 4);
        fault("from 1", 2, 6);
        fault("from 1 near", 2, 11);
        fault("from 1 near 1", 2, 13);
        fault("except", 2, 6);
        fault("near 1; from", 2, 12);
    }

    /** "4 the 13th LINE (its first TOKEN)". */
    private static void theThirteenthLine() {
        String twelve = Towns.shuts(12);
        taken(Towns.shuts(11), 11);
        taken(twelve, 12);
        taken(twelve + "   ", 12);
        fault(Towns.shuts(13), 4, twelve.length());
        fault(twelve + "near 1;", 4, twelve.length());
        fault(twelve + "  near", 4, twelve.length() + 2);
        fault(twelve + "  from", 4, twelve.length() + 2);
        fault(twelve + "except 9;", 4, twelve.length());
    }

    /** At one TOKEN: what is none, or begins no LINE, is no 13th LINE; what is told already is one. */
    private static void theThirteenthLineFirst() {
        String twelve = Towns.shuts(12);
        fault(twelve + "nears", 1, twelve.length());
        fault(twelve + "1000", 1, twelve.length());
        fault(twelve + "!", 1, twelve.length());
        fault(twelve + ";", 2, twelve.length());
        fault(twelve + "1", 2, twelve.length());
        fault(twelve + "shut;", 4, twelve.length());
        fault(twelve + "from 0 shut;", 4, twelve.length());
        fault(twelve.replace("from11shut;", "from10shut;"), 5, twelve.length() - 5);
    }

    /** "5 what is told already from the same SHIFT (the rule's NAME ..)". */
    private static void toldAlreadyFromTheSameShift() {
        String[] rules = {"near 1", "apart 1", "each 1", "acre 1", "shut"};
        for (String rule : rules) {
            int length = rule.length() + 1;
            fault(rule + ";" + rule + ";", 5, length);
            fault(rule + ";from 0 " + rule + ";", 5, length + 7);
            fault("from 49 " + rule + ";from 49 " + rule + ";", 5, length + 16);
            taken(rule + ";from 1 " + rule + ";", 2);
            taken("from 48 " + rule + ";from 49 " + rule + ";", 2);
        }
        taken("near 1;apart 1;each 1;acre 1;shut;except 1;", 6);
        fault("near 1;apart 1;each 1;acre 1;shut;except 1;near 1;", 5, 43);
        fault("near 1;from 3 near 2;near 3;", 5, 21);
    }

    /** "of except: the PERSON, behind 3". */
    private static void toldAlreadyOfExcept() {
        taken("except 0;except 1;except 2;except 3;except 4;except 5;", 6);
        fault("except 0;except 0;", 5, 16);
        fault("except 5;from 0 except 5;", 5, 23);
        fault("from 7 except 5;from 7 except 005;", 5, 30);
        fault("except 0;except 6;", 3, 16);
        taken("except 0;from 1 except 0;", 2);
        fault("except 0;except 1;except 0;", 5, 25);
        fault("except 0;except 1;except 1;", 5, 25);
        fault("shut;except 1;except 1;", 5, 21);
        fault("from 3 except 1;except 1;except 1;", 5, 32);
        fault("except 1;from 3 except 1;from 3 except 1;", 5, 39);
        taken("near 1;except 1;", 2);
        taken("except 1;except 2;from 3 except 1;from 3 except 2;", 4);
    }

    /** The rule's NAME is met ahead of its NUMBER, whatever that is. */
    private static void toldAlreadyFirst() {
        fault("near 1;near 10;", 5, 7);
        fault("near 1;near 1000;", 5, 7);
        fault("near 1;near;", 5, 7);
        fault("near 1;near", 5, 7);
        fault("near 1;near!", 5, 7);
        fault("near 1;nears", 1, 7);
        fault("except 1;except;", 2, 15);
        fault("except 1;except 1000;", 1, 16);
        fault("except 1;except 1", 5, 16);
        fault("except 1;except 1!", 5, 16);
    }

    /** "(a TOKEN is read when the one before has been taken)". */
    private static void readWhenTheOneBeforeIsTaken() {
        fault("near 10!", 3, 5);
        fault("near 10 1000", 3, 5);
        fault("near 9!", 1, 6);
        fault("from 50!", 3, 5);
        fault("from 50 nears", 3, 5);
        fault("from 49 nears", 1, 8);
        fault("; !", 2, 0);
        fault("near near!", 2, 5);
        fault("near 1 2!", 2, 7);
        fault("near 1; near 1!", 5, 8);
        fault("except 6!", 3, 7);
        fault("shut; shut", 5, 6);
    }

    /** "The FAULT of the latest orders(); 0." */
    private static void faultOfTheLatest() {
        OilTown x = new OilTown();
        due.is("none yet", x.fault(), 0);
        Due.orders(x, "!");
        due.is("1", x.fault(), 1);
        due.is("it stays", x.fault(), 1);
        Due.orders(x, ";");
        due.is("2", x.fault(), 2);
        Due.orders(x, "near 10");
        due.is("3", x.fault(), 3);
        Due.orders(x, Towns.shuts(13));
        due.is("4", x.fault(), 4);
        Due.orders(x, "shut;shut;");
        due.is("5", x.fault(), 5);
        for (int i = 0; i < 20; i++) {
            x.feed(-1);
        }
        due.is("feed of one too many", x.feed(-1), FULL);
        due.is("it stays", x.fault(), 5);
        x.end(0);
        x.field(2, 2);
        due.is("it stays", x.fault(), 5);
        Due.orders(x, "shut;");
        due.is("0", x.fault(), 0);
    }
}
