/** The examples of the document, call by call. */
public final class ExamplesTest {
    private static int wrong = 0;

    private static void due(String call, int got, int want) {
        if (got != want) {
            wrong++;
            System.out.println(call + " answered " + got + ", due is " + want);
        }
    }

    private static void appendAll(PittanceHouse x, String text) {
        for (int i = 0; i < text.length(); i++) {
            due("append of " + text.charAt(i), x.append(text.charAt(i)), i + 1);
        }
    }

    private static void chosenAndVoices() {
        PittanceHouse x = new PittanceHouse();
        due("come(60, false)", x.come(60, false), 0);
        due("come(70, true)", x.come(70, true), 1);
        due("choose(0)", x.choose(0), 0);
        due("voice(0, 1)", x.voice(0, 1), 2);
        due("voices(1)", x.voices(1), 2);
        due("voicesAgain(1)", x.voicesAgain(1), 2);
        due("choose(0)", x.choose(0), -14);
        due("reason(true)", x.reason(true), 0);
        due("choose(3)", x.choose(3), 1);
        due("tell()", x.tell(), 15);
        due("senior(1)", x.senior(1), 1);
    }

    private static void feastsAndBan() {
        PittanceHouse x = new PittanceHouse();
        due("come(50, false)", x.come(50, false), 0);
        due("choose(0)", x.choose(0), 0);
        due("feast(0, 9)", x.feast(0, 9), 1);
        due("feast(1, 5)", x.feast(1, 5), 2);
        due("weeks(1)", x.weeks(1), 9);
        due("brotherOf(0, 6)", x.brotherOf(0, 6), 9);
        due("account(9)", x.account(9), 105);
        due("wouldGet(0, 1)", x.wouldGet(0, 1), 5);
        due("breach(0, 2)", x.breach(0, 2), 1);
        due("weeks(1)", x.weeks(1), 0);
        due("brotherOf(0, 5)", x.brotherOf(0, 5), 0);
        due("brotherOf(0, 6)", x.brotherOf(0, 6), 9);
    }

    private static void putOut() {
        PittanceHouse x = new PittanceHouse();
        due("come(50, true)", x.come(50, true), 0);
        due("choose(7)", x.choose(7), 0);
        due("breach(0, 0)", x.breach(0, 0), 1);
        due("breach(0, 0)", x.breach(0, 0), 3);
        due("brotherOf(0, 5)", x.brotherOf(0, 5), 3);
        due("pardon(0)", x.pardon(0), 3);
        due("pardon(0)", x.pardon(0), -14);
        due("reason(false)", x.reason(false), 10);
        due("breach(0, 0)", x.breach(0, 0), 0);
        due("brotherOf(0, 2)", x.brotherOf(0, 2), 2);
        due("inCell(7)", x.inCell(7), -15);
        due("account(5)", x.account(5), 1);
    }

    private static void gownsByYears() {
        PittanceHouse x = new PittanceHouse();
        due("come(90, false)", x.come(90, false), 0);
        due("choose(1)", x.choose(1), 0);
        due("weeks(52)", x.weeks(52), 0);
        due("brotherOf(0, 0)", x.brotherOf(0, 0), 91);
        due("brotherOf(0, 4)", x.brotherOf(0, 4), 1);
        due("weeks(52)", x.weeks(52), 0);
        due("brotherOf(0, 4)", x.brotherOf(0, 4), 0);
        due("account(12)", x.account(12), 8);
        due("account(0)", x.account(0), 2);
        due("chestIn(52)", x.chestIn(52), 2276);
    }

    private static void texts() {
        PittanceHouse x = new PittanceHouse();
        due("come(55, false)", x.come(55, false), 0);
        appendAll(x, "gift 0");
        due("run()", x.run(), -14);
        due("reason(true)", x.reason(true), 0);
        appendAll(x, "bx");
        due("run()", x.run(), -1001);
        due("tellWaiting()", x.tellWaiting(), 3);
        due("character(0)", x.character(0), 48);
    }

    public static void main(String[] args) {
        chosenAndVoices();
        feastsAndBan();
        putOut();
        gownsByYears();
        texts();
        System.out.println(wrong == 0 ? "the examples hold" : wrong + " answers are not as due");
        if (wrong != 0) {
            System.exit(1);
        }
    }
}
