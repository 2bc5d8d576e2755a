import java.util.function.Supplier;
import java.util.function.ToIntFunction;

/** What the tests share: houses to begin with, and checks of answers that print what is wrong. */
abstract class Checks {
    static final int NONE = PittanceHouse.NONE;
    static final int BAD = PittanceHouse.BAD;
    static final int FULL = PittanceHouse.FULL;
    static final int REFUSED = PittanceHouse.REFUSED;
    static final int NOTHING = PittanceHouse.NOTHING;
    static final int[] FAR = {Integer.MIN_VALUE, -1000000, -1, 1 << 28, Integer.MAX_VALUE};
    private static int wrong = 0;
    private static int made = 0;
    private static String label = "";

    static void about(String what) {
        label = what;
    }

    static int made() {
        return made;
    }

    static void fault(String what) {
        wrong++;
        System.out.println(label + ": " + what);
    }

    static void end(String good) {
        System.out.println(wrong == 0 ? good : wrong + " answers are not as due");
        if (wrong != 0) {
            System.exit(1);
        }
    }

    static void due(String call, double got, double want) {
        made++;
        if (got != want) {
            fault(call + " answered " + got + ", due is " + want);
        }
    }

    /** A check that names the line of the test where it stands. */
    static void is(double got, double want) {
        due(place(), got, want);
    }

    static void isText(String got, String want) {
        made++;
        if (!got.equals(want)) {
            fault(place() + " is \"" + got + "\", due is \"" + want + "\"");
        }
    }

    private static String place() {
        for (StackTraceElement e : new Throwable().getStackTrace()) {
            if (!e.getClassName().equals("Checks")) {
                return e.getFileName() + ":" + e.getLineNumber();
            }
        }
        return "somewhere";
    }

    static void refused(PittanceHouse x, String call, int got, int reason, int detail) {
        due(call, got, REFUSED);
        due("reason of " + call, x.reason(false), reason);
        due("detail of " + call, x.reason(true), detail);
    }

    static void refused(PittanceHouse x, int got, int reason, int detail) {
        refused(x, place(), got, reason, detail);
    }

    /** A house of so many who wait, number k of the age 50 + k and kin if k is odd. */
    static PittanceHouse waiting(int many) {
        PittanceHouse x = new PittanceHouse();
        for (int i = 0; i < many; i++) {
            x.come(50 + i, i % 2 == 1);
        }
        return x;
    }

    /** The same, and then the first of them go into the first cells, each into that of his number. */
    static PittanceHouse housed(int many, int inCells) {
        PittanceHouse x = waiting(many);
        for (int i = 0; i < inCells; i++) {
            x.choose(i);
        }
        return x;
    }

    /** The same, and then gifts bring the chest from 100 to so many pence. */
    static PittanceHouse rich(int many, int inCells, int pence) {
        PittanceHouse x = housed(many, inCells);
        for (int rest = pence - 100; rest > 0; rest -= 500) {
            x.gift(Math.min(rest, 500));
        }
        return x;
    }

    /**
     * The week 2 of the year 1: the brethren 0 to 7 are in their cells, so that no rents come, their gowns are a year
     * old, and feasts in the weeks 0 and 1 have left 4 pence, to which the gift comes.
     */
    static PittanceHouse poor(int gift) {
        PittanceHouse x = housed(8, 8);
        x.weeks(52);
        drain(x, gift);
        return x;
    }

    static void drain(PittanceHouse x, int gift) {
        x.feast(0, 9);
        x.feast(1, 3);
        x.weeks(2);
        if (gift > 0) {
            x.gift(gift);
        }
    }

    static PittanceHouse putOut(PittanceHouse x, int brother) {
        for (int i = 0; i < 3; i++) {
            x.breach(brother, 4);
        }
        return x;
    }

    static PittanceHouse append(PittanceHouse x, String text) {
        for (int i = 0; i < text.length(); i++) {
            x.append(text.charAt(i));
        }
        return x;
    }

    static int orders(PittanceHouse x, String text) {
        return append(x, text).run();
    }

    /** What a new house answers if it runs the text. */
    static int runNew(String text) {
        return orders(new PittanceHouse(), text);
    }

    static String lineOf(PittanceHouse x) {
        StringBuilder line = new StringBuilder();
        for (int code = x.character(0); code >= 0; code = x.character(line.length())) {
            line.append((char) code);
        }
        return line.toString();
    }

    static void line(PittanceHouse x, int length, String want) {
        isText(lineOf(x), want);
        is(length, want.length());
    }

    /** Of two houses made alike, one gets the call, which answers the code; then both must answer alike. */
    static void unchanged(Supplier<PittanceHouse> maker, ToIntFunction<PittanceHouse> call, int code) {
        PittanceHouse x = maker.get();
        due(place() + ", the call", call.applyAsInt(x), code);
        isText(portrait(x), portrait(maker.get()));
    }

    /** All that a house of some ten brethren answers but its reasons, the changes and the snapshot behind it too. */
    static String portrait(PittanceHouse x) {
        StringBuilder all = new StringBuilder(lineOf(x));
        for (int what = 0; what <= 16; what++) {
            add(all, x.account(what));
        }
        for (int b = 0; b < x.account(2); b++) {
            for (int what = 0; what <= 9; what++) {
                add(all, x.brotherOf(b, what));
            }
            for (int rule = 0; rule <= 4; rule++) {
                add(all, x.broke(b, rule));
            }
        }
        for (int i = 0; i < 8; i++) {
            add(all.append(" in"), x.inCell(i));
            add(all.append(" by"), x.senior(i));
        }
        for (int weeks = 0; weeks <= 52; weeks++) {
            add(all, x.chestIn(weeks));
        }
        while (x.undo() >= 0) {
            addShort(all.append(" undone"), x);
        }
        x.restore();
        addShort(all.append(" restored"), x);
        return all.toString();
    }

    private static void addShort(StringBuilder all, PittanceHouse x) {
        for (int what = 1; what <= 8; what++) {
            add(all, x.account(what));
        }
        add(all, x.chestIn(60));
    }

    private static void add(StringBuilder all, int answer) {
        all.append(' ').append(answer);
    }
}
