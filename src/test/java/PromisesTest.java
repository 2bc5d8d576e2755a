/** For each promise: ordinary inputs, the edges that the document names, and wrong inputs. */
public final class PromisesTest extends Checks {
    private static void p1New() {
        PittanceHouse x = new PittanceHouse();
        for (int what = 0; what <= 16; what++) {
            due("account(" + what + ")", x.account(what), what == 9 ? 100 : 0);
        }
        for (int cell = 0; cell < 8; cell++) {
            due("inCell(" + cell + ")", x.inCell(cell), NOTHING);
        }
        due("nextFeast()", x.nextFeast(), NOTHING);
        due("brotherOf(0, 0)", x.brotherOf(0, 0), NONE);
        due("entitled()", x.entitled(), 0);
        due("reason(false)", x.reason(false), NOTHING);
        due("isBalanced()", x.isBalanced(), 1);
        PittanceHouse y = new PittanceHouse();
        x.come(50, false);
        due("account(2) of another object", y.account(2), 0);
    }

    private static void p2Come() {
        PittanceHouse x = new PittanceHouse();
        due("come(49, false)", x.come(49, false), BAD);
        due("come(91, true)", x.come(91, true), BAD);
        for (int far : FAR) {
            due("come(" + far + ", true)", x.come(far, true), BAD);
        }
        due("reason after BAD", x.reason(false), NOTHING);
        due("come(50, false)", x.come(50, false), 0);
        due("come(90, true)", x.come(90, true), 1);
        due("how he is", x.brotherOf(1, 2), 0);
        due("his place", x.brotherOf(1, 9), 1);
        for (int i = 2; i < 16; i++) {
            due("come of " + i, x.come(60, false), i);
        }
        due("come(49, false) of the 17th", x.come(49, false), BAD);
        refused(x, "come of the 17th", x.come(60, false), 1, 16);
        x.withdraw(0);
        refused(x, "come behind one who left", x.come(60, false), 1, 16);
        due("account(2)", x.account(2), 16);
    }

    private static void p3Withdraw() {
        PittanceHouse x = housed(5, 2);
        due("withdraw(5)", x.withdraw(5), NONE);
        for (int far : FAR) {
            due("withdraw(" + far + ")", x.withdraw(far), NONE);
        }
        refused(x, "withdraw(0)", x.withdraw(0), 2, 1);
        x.voice(0, 3);
        due("withdraw(3)", x.withdraw(3), 2);
        due("how he is", x.brotherOf(3, 2), 3);
        due("the voice for him", x.brotherOf(0, 8), NOTHING);
        due("the place behind him", x.brotherOf(4, 9), 1);
        refused(x, "withdraw(3) again", x.withdraw(3), 2, 3);
        for (int i = 0; i < 3; i++) {
            x.breach(1, 0);
        }
        refused(x, "withdraw(1)", x.withdraw(1), 2, 2);
        due("withdraw(2)", x.withdraw(2), 1);
        due("withdraw(4)", x.withdraw(4), 0);
    }

    private static void p4Voice() {
        PittanceHouse x = housed(6, 3);
        due("voice(6, 3)", x.voice(6, 3), NONE);
        due("voice(0, 6)", x.voice(0, 6), NONE);
        for (int far : FAR) {
            due("voice(" + far + ", 3)", x.voice(far, 3), NONE);
            due("voice(0, " + far + ")", x.voice(0, far), NONE);
        }
        refused(x, "voice(4, 0)", x.voice(4, 0), 3, 0);
        refused(x, "voice(0, 1)", x.voice(0, 1), 2, 1);
        refused(x, "voice(0, 0)", x.voice(0, 0), 2, 1);
        due("voice(0, 4)", x.voice(0, 4), 1);
        due("voice(1, 4)", x.voice(1, 4), 2);
        due("voice(1, 3)", x.voice(1, 3), 2);
        due("voices(4) of one voice less", x.voices(4), 1);
        due("voice(2, 3)", x.voice(2, 3), 4);
        due("voice(2, 3) again", x.voice(2, 3), 4);
        due("breach(2, 1)", x.breach(2, 1), 1);
        refused(x, "voice under a ban of a week", x.voice(2, 4), 4, 1);
        due("breach(2, 1)", x.breach(2, 1), 3);
        refused(x, "voice under a ban", x.voice(2, 4), 4, 3);
        refused(x, "voice under a ban for nobody", x.voice(2, 0), 4, 3);
        due("the voice given before the ban", x.voices(3), 4);
        x.leave(1);
        refused(x, "voice of one who left", x.voice(1, 3), 3, 3);
        refused(x, "voice for one who left", x.voice(0, 1), 2, 3);
        due("voices(3) without his", x.voices(3), 2);
        x.breach(2, 1);
        refused(x, "voice of one put out", x.voice(2, 3), 3, 2);
        due("voices(3) without any", x.voices(3), 0);
    }

    private static void p5Choose() {
        PittanceHouse x = waiting(6);
        due("choose(-1)", x.choose(-1), NONE);
        due("choose(8)", x.choose(8), NONE);
        for (int far : FAR) {
            due("choose(" + far + ")", x.choose(far), NONE);
        }
        due("choose(7) without voices", x.choose(7), 0);
        due("his cell", x.brotherOf(0, 3), 7);
        due("his place", x.brotherOf(0, 9), NOTHING);
        due("his gown", x.brotherOf(0, 4), 0);
        refused(x, "choose(7) again", x.choose(7), 5, 0);
        x.voice(0, 4);
        due("choose(0) of one voice", x.choose(0), 4);
        due("the voice for him", x.brotherOf(0, 8), NOTHING);
        x.voice(0, 2);
        x.voice(4, 2);
        due("voice(0, 3) for kin", x.voice(0, 3), 2);
        x.voice(4, 5);
        due("choose(1) of several, the one ahead", x.choose(1), 3);
        x.voice(0, 2);
        due("choose(2), kin before one voice", x.choose(2), 5);
        due("choose(3)", x.choose(3), 2);
        due("choose(4)", x.choose(4), 1);
        refused(x, "choose(5), nobody waits", x.choose(5), 6, 5);
        refused(x, "choose(4), taken and nobody waits", x.choose(4), 5, 1);
    }

    private static void p6Leave() {
        PittanceHouse x = housed(5, 3);
        due("leave(-1)", x.leave(-1), NONE);
        due("leave(8)", x.leave(8), NONE);
        for (int far : FAR) {
            due("leave(" + far + ")", x.leave(far), NONE);
        }
        refused(x, "leave(6)", x.leave(6), 7, 6);
        x.voice(1, 3);
        x.breach(1, 0);
        due("leave(1)", x.leave(1), 1);
        due("how he is", x.brotherOf(1, 2), 3);
        due("his cell", x.brotherOf(1, 3), NOTHING);
        due("his gown", x.brotherOf(1, 4), NOTHING);
        due("his ban", x.brotherOf(1, 5), 0);
        due("his voice", x.brotherOf(1, 8), NOTHING);
        due("inCell(1)", x.inCell(1), NOTHING);
        due("his breaches", x.brotherOf(1, 7), 1);
        refused(x, "leave(1) again", x.leave(1), 7, 1);
        due("choose(1)", x.choose(1), 3);
        due("leave(1) of the next", x.leave(1), 3);
    }

    private static void p7Feast() {
        PittanceHouse x = new PittanceHouse();
        int[][] bad = {{-1, 1}, {52, 1}, {0, 0}, {0, 10}, {0, -1}, {99, 99}};
        for (int[] b : bad) {
            due("feast(" + b[0] + ", " + b[1] + ")", x.feast(b[0], b[1]), BAD);
        }
        for (int far : FAR) {
            due("feast(" + far + ", 1)", x.feast(far, 1), BAD);
            due("feast(1, " + far + ")", x.feast(1, far), BAD);
        }
        due("feast(0, 1)", x.feast(0, 1), 1);
        due("feast(51, 9)", x.feast(51, 9), 2);
        due("feast(51, 8)", x.feast(51, 8), 2);
        for (int i = 3; i <= 6; i++) {
            due("feast(" + i + ", 2)", x.feast(i, 2), i);
        }
        refused(x, "feast(20, 2)", x.feast(20, 2), 8, 6);
        due("feast(20, 0) with 6", x.feast(20, 0), BAD);
        due("feast(0, 7) with 6", x.feast(0, 7), 6);
        x.come(50, false);
        x.choose(0);
        due("the changed pence", x.wouldGet(0, 1), 7);
    }

    private static void p8Breach() {
        PittanceHouse x = housed(4, 2);
        due("breach(4, 0)", x.breach(4, 0), NONE);
        due("breach(0, 5)", x.breach(0, 5), NONE);
        due("breach(0, -1)", x.breach(0, -1), NONE);
        for (int far : FAR) {
            due("breach(" + far + ", 0)", x.breach(far, 0), NONE);
            due("breach(0, " + far + ")", x.breach(0, far), NONE);
        }
        due("breach(3, 5) of one in no cell", x.breach(3, 5), NONE);
        refused(x, "breach(3, 0)", x.breach(3, 0), 3, 0);
        due("broke(3, 0)", x.broke(3, 0), 0);
        due("breach(0, 4)", x.breach(0, 4), 1);
        due("breach(0, 4)", x.breach(0, 4), 3);
        due("breach(0, 0)", x.breach(0, 0), 4);
        x.weeks(1);
        due("breach(0, 0)", x.breach(0, 0), 5);
        x.voice(1, 3);
        due("breach(0, 4), the third", x.breach(0, 4), 0);
        due("how he is", x.brotherOf(0, 2), 2);
        due("his ban", x.brotherOf(0, 5), 0);
        due("inCell(0)", x.inCell(0), NOTHING);
        due("broke(0, 4)", x.broke(0, 4), 3);
        refused(x, "breach of one put out", x.breach(0, 4), 3, 2);
        x.leave(1);
        refused(x, "breach of one who left", x.breach(1, 4), 3, 3);
    }

    private static void p9Pardon() {
        PittanceHouse x = housed(5, 4);
        due("pardon(5)", x.pardon(5), NONE);
        for (int far : FAR) {
            due("pardon(" + far + ")", x.pardon(far), NONE);
        }
        refused(x, "pardon of one who waits", x.pardon(4), 3, 0);
        refused(x, "pardon without a ban", x.pardon(3), 10, 3);
        for (int b = 0; b < 3; b++) {
            x.breach(b, b);
            x.breach(b, b);
        }
        due("pardon(0)", x.pardon(0), 3);
        due("pardon(1)", x.pardon(1), 3);
        due("account(14)", x.account(14), 2);
        due("his ban", x.brotherOf(1, 5), 0);
        refused(x, "the third pardon", x.pardon(2), 9, 2);
        refused(x, "the third, without a ban", x.pardon(0), 10, 0);
        due("how often he broke it", x.broke(0, 0), 2);
        x.weeks(51);
        x.breach(3, 0);
        refused(x, "in the same year", x.pardon(3), 9, 2);
        x.weeks(1);
        x.breach(3, 1);
        due("in a new year", x.pardon(3), 1);
        x.breach(0, 0);
        refused(x, "pardon of one put out", x.pardon(0), 3, 2);
        x.leave(1);
        refused(x, "pardon of one who left", x.pardon(1), 3, 3);
    }

    private static void p10Gift() {
        PittanceHouse x = new PittanceHouse();
        due("gift(0)", x.gift(0), BAD);
        due("gift(501)", x.gift(501), BAD);
        for (int far : FAR) {
            due("gift(" + far + ")", x.gift(far), BAD);
        }
        due("gift(1)", x.gift(1), 101);
        for (int i = 1; i <= 19; i++) {
            due("gift(500)", x.gift(500), 101 + 500 * i);
        }
        due("gift(398)", x.gift(398), 9999);
        due("gift(500) into a full chest", x.gift(500), 9999);
        due("account(10)", x.account(10), 9899);
        due("the changes", x.account(16), 8);
        due("isBalanced()", x.isBalanced(), 1);
        x.undo();
        due("undo", x.undo(), 6);
        due("gift(399), one too many", x.gift(399), 9999);
        due("account(10)", x.account(10), 9899);
    }

    private static void p11WeeksBounds() {
        PittanceHouse x = new PittanceHouse();
        due("weeks(0)", x.weeks(0), BAD);
        due("weeks(61)", x.weeks(61), BAD);
        for (int far : FAR) {
            due("weeks(" + far + ")", x.weeks(far), BAD);
        }
        due("weeks(60)", x.weeks(60), 0);
        due("the year", x.account(0), 1);
        due("the week", x.account(1), 8);
        due("the rents of eight cells", x.account(9), 100 + 60 * 16);
        for (int i = 0; i < 10; i++) {
            x.weeks(60);
        }
        due("a full chest", x.account(9), 9999);
        due("what came", x.account(10), 9899);
    }

    private static void p11SmallChest() {
        PittanceHouse x = housed(8, 8);
        for (int i = 0; i < 6; i++) {
            x.feast(i, 9);
        }
        due("a full feast", x.weeks(1), 72);
        due("28 for eight", x.weeks(1), 24);
        due("the rest", x.account(9), 4);
        due("4 for eight", x.weeks(1), 0);
        due("the rest", x.account(9), 4);
        due("each got", x.brotherOf(7, 6), 12);
        for (int b = 0; b < 6; b++) {
            x.breach(b, 0);
        }
        due("4 for two", x.weeks(1), 4);
        due("no ban behind it", x.account(7), 0);
        due("an empty chest", x.weeks(1), 0);
        due("account(11)", x.account(11), 100);
        due("isBalanced()", x.isBalanced(), 1);
        due("gift(72)", x.gift(72), 72);
        due("just enough", x.weeks(1), 72);
        x.weeks(46);
        due("the year", x.account(0), 1);
        due("the week", x.account(1), 0);
        x.weeks(52);
        due("no pence for gowns", x.account(13), 0);
        due("an old gown", x.brotherOf(3, 4), 2);
    }

    private static void p11RentsBehindTheFeast() {
        PittanceHouse x = housed(1, 1);
        x.feast(0, 9);
        PittanceHouse y = housed(7, 7);
        y.feast(1, 9);
        y.feast(2, 9);
        y.feast(3, 9);
        due("91 behind the feast and 14 by rents", x.weeks(1) + x.account(9), 9 + 105);
        due("the feasts of weeks 1 to 3", y.weeks(4), 63 + 35 + 7);
        due("the rents of one cell", y.account(9), 100 + 8 - 105);
        due("isBalanced()", y.isBalanced(), 1);
        PittanceHouse z = housed(1, 1);
        z.feast(0, 9);
        z.breach(0, 0);
        due("none is entitled", z.weeks(1), 0);
        due("the ban is gone behind it", z.brotherOf(0, 5), 0);
        due("the chest", z.account(9), 114);
    }

    /**
     * The first week of the year 1. Feasts have drawn the chest down to 4 pence, all eight cells are taken, so that no
     * rent comes, and bans keep the feasts of the new year from paying: the chest has 4 pence and the gift alone.
     */
    private static PittanceHouse yearsWithGifts(int pence) {
        PittanceHouse x = housed(9, 8);
        x.feast(0, 9);
        x.feast(1, 3);
        x.feast(2, 1);
        x.weeks(4);
        for (int i = 0; i < 3; i++) {
            x.feast(i, 1);
        }
        due("what the feasts left", x.account(9), 4);
        for (int b = 0; b < 8; b++) {
            for (int rule = 0; rule < 5; rule++) {
                x.breach(b, rule);
            }
        }
        x.leave(2);
        x.choose(2);
        if (pence > 0) {
            x.gift(pence);
        }
        x.weeks(48);
        for (int b = 0; b < 9; b++) {
            for (int rule = 0; rule < 5; rule++) {
                x.breach(b, rule);
            }
        }
        return x;
    }

    private static void p11Gowns() {
        PittanceHouse x = yearsWithGifts(19);
        due("a year and no gown", x.account(13), 0);
        due("a gown of a year", x.brotherOf(0, 4), 1);
        due("of a year as well", x.brotherOf(8, 4), 1);
        x.weeks(52);
        due("two gowns for 23 pence", x.account(13), 2);
        due("account(12)", x.account(12), 16);
        due("the rest", x.account(9), 7);
        due("the first has one", x.brotherOf(0, 4), 0);
        due("the second has one", x.brotherOf(1, 4), 0);
        due("the next has none", x.brotherOf(3, 4), 2);
        due("nor the last", x.brotherOf(8, 4), 2);
        due("shabby(0)", x.shabby(0), 3);
        due("isBalanced()", x.isBalanced(), 1);
        x.leave(4);
        x.withdraw(4);
        due("age of one who left", x.brotherOf(4, 0), 56);
        due("age of one who left early", x.brotherOf(2, 0), 52);
        due("age of one in a cell", x.brotherOf(5, 0), 57);
        x.gift(1);
        x.leave(3);
        x.weeks(52);
        due("the older gown first", x.brotherOf(5, 4), 0);
        due("age of one who left later", x.brotherOf(4, 0), 56);
    }

    private static void p11GownsBounds() {
        PittanceHouse x = yearsWithGifts(20);
        x.weeks(52);
        due("three gowns for 24 pence", x.account(13), 3);
        due("an empty chest", x.account(9), 0);
        PittanceHouse y = housed(8, 8);
        y.weeks(52);
        y.weeks(52);
        due("eight gowns", y.account(13), 8);
        due("the rest", y.account(9), 36);
    }

    private static void p11Ages() {
        PittanceHouse x = housed(4, 2);
        for (int i = 0; i < 3; i++) {
            x.breach(0, 2);
        }
        x.withdraw(2);
        x.weeks(51);
        due("age before the new year", x.brotherOf(1, 0), 51);
        x.weeks(1);
        due("put out", x.brotherOf(0, 0), 50);
        due("in a cell", x.brotherOf(1, 0), 52);
        due("left", x.brotherOf(2, 0), 52);
        due("waits", x.brotherOf(3, 0), 54);
        x.choose(0);
        due("a new gown", x.brotherOf(3, 4), 0);
        due("an old gown", x.brotherOf(1, 4), 1);
    }

    private static void p12BrotherOf() {
        PittanceHouse x = housed(4, 2);
        due("brotherOf(4, 0)", x.brotherOf(4, 0), NONE);
        due("brotherOf(0, 10)", x.brotherOf(0, 10), BAD);
        due("brotherOf(0, -1)", x.brotherOf(0, -1), BAD);
        due("brotherOf(-1, -1)", x.brotherOf(-1, -1), NONE);
        for (int far : FAR) {
            due("brotherOf(" + far + ", 0)", x.brotherOf(far, 0), NONE);
            due("brotherOf(0, " + far + ")", x.brotherOf(0, far), BAD);
        }
        x.feast(0, 4);
        x.weeks(1);
        x.voice(1, 3);
        x.breach(1, 0);
        x.breach(1, 0);
        x.breach(1, 4);
        int[] inCell = {51, 1, 1, 1, 0, 4, 4, 3, 3, NOTHING};
        int[] waits = {53, 1, 0, NOTHING, NOTHING, 0, 0, 0, NOTHING, 1};
        for (int what = 0; what < 10; what++) {
            due("brotherOf(1, " + what + ")", x.brotherOf(1, what), inCell[what]);
            due("brotherOf(3, " + what + ")", x.brotherOf(3, what), waits[what]);
        }
        due("brotherOf(0, 1)", x.brotherOf(0, 1), 0);
        x.breach(1, 0);
        int[] putOut = {51, 1, 2, NOTHING, NOTHING, 0, 4, 4, NOTHING, NOTHING};
        for (int what = 0; what < 10; what++) {
            due("brotherOf(1, " + what + ") put out", x.brotherOf(1, what), putOut[what]);
        }
    }

    private static void p13Broke() {
        PittanceHouse x = housed(2, 2);
        due("broke(2, 0)", x.broke(2, 0), NONE);
        due("broke(0, 5)", x.broke(0, 5), NONE);
        due("broke(0, -1)", x.broke(0, -1), NONE);
        for (int far : FAR) {
            due("broke(" + far + ", 0)", x.broke(far, 0), NONE);
            due("broke(0, " + far + ")", x.broke(0, far), NONE);
        }
        x.breach(1, 3);
        x.breach(1, 3);
        x.breach(1, 4);
        int[] want = {0, 0, 0, 2, 1};
        for (int rule = 0; rule < 5; rule++) {
            due("broke(1, " + rule + ")", x.broke(1, rule), want[rule]);
            due("broke(0, " + rule + ")", x.broke(0, rule), 0);
        }
        x.pardon(1);
        x.leave(1);
        due("broke(1, 3) of one who left", x.broke(1, 3), 2);
    }

    private static void p14InCell() {
        PittanceHouse x = waiting(2);
        x.choose(7);
        x.choose(0);
        due("inCell(-1)", x.inCell(-1), NONE);
        due("inCell(8)", x.inCell(8), NONE);
        for (int far : FAR) {
            due("inCell(" + far + ")", x.inCell(far), NONE);
        }
        due("inCell(0)", x.inCell(0), 1);
        due("inCell(7)", x.inCell(7), 0);
        due("inCell(3)", x.inCell(3), NOTHING);
    }

    private static void bothEntitled(PittanceHouse x, int want) {
        due("entitled()", x.entitled(), want);
        due("entitledAgain()", x.entitledAgain(), want);
    }

    private static void p15And16Entitled() {
        PittanceHouse x = waiting(16);
        bothEntitled(x, 0);
        for (int cell = 0; cell < 8; cell++) {
            x.choose(7 - cell);
        }
        bothEntitled(x, 0xff);
        x.leave(7);
        x.leave(0);
        for (int i = 0; i < 8; i++) {
            x.withdraw(8 + i % 7);
        }
        due("choose(0)", x.choose(0), 15);
        bothEntitled(x, 0x807e);
        x.breach(15, 0);
        x.breach(3, 0);
        x.breach(3, 0);
        bothEntitled(x, 0x76);
        x.weeks(1);
        bothEntitled(x, 0x8076);
        x.pardon(3);
        bothEntitled(x, 0x807e);
    }

    private static void bothVoices(PittanceHouse x, int brother, int want) {
        due("voices(" + brother + ")", x.voices(brother), want);
        due("voicesAgain(" + brother + ")", x.voicesAgain(brother), want);
    }

    private static void p17And18Voices() {
        PittanceHouse x = housed(12, 8);
        bothVoices(x, 12, NONE);
        for (int far : FAR) {
            bothVoices(x, far, NONE);
        }
        bothVoices(x, 0, 0);
        bothVoices(x, 11, 0);
        for (int b = 0; b < 8; b++) {
            due("voice(" + b + ", 11)", x.voice(b, 11), 2 * b + 2);
        }
        bothVoices(x, 11, 16);
        x.voice(2, 10);
        x.voice(6, 10);
        bothVoices(x, 11, 12);
        bothVoices(x, 10, 2);
        x.breach(6, 1);
        bothVoices(x, 10, 2);
        x.leave(6);
        bothVoices(x, 10, 1);
        due("choose(6)", x.choose(6), 11);
        bothVoices(x, 11, 0);
        bothVoices(x, 10, 1);
        x.withdraw(10);
        bothVoices(x, 10, 0);
        x.undo();
        bothVoices(x, 10, 1);
    }

    private static void p19Ranked() {
        PittanceHouse x = housed(9, 3);
        for (int far : FAR) {
            due("ranked(" + far + ")", x.ranked(far), NONE);
        }
        x.voice(0, 8);
        x.voice(1, 6);
        x.voice(2, 7);
        int[] want = {7, 6, 8, 3, 4, 5, NONE};
        for (int place = 0; place < want.length; place++) {
            due("ranked(" + place + ")", x.ranked(place), want[place]);
        }
        x.voice(2, 5);
        due("ranked(0) of kin", x.ranked(0), 5);
        x.withdraw(5);
        due("ranked(4)", x.ranked(4), 7);
        due("ranked(5)", x.ranked(5), NONE);
        due("ranked(0) of nobody", new PittanceHouse().ranked(0), NONE);
    }

    private static void p20Senior() {
        PittanceHouse x = waiting(6);
        due("senior(0)", x.senior(0), NONE);
        x.choose(5);
        x.voice(0, 4);
        x.choose(1);
        x.choose(3);
        x.choose(0);
        for (int far : FAR) {
            due("senior(" + far + ")", x.senior(far), NONE);
        }
        int[] want = {0, 4, 1, 2, NONE};
        for (int place = 0; place < want.length; place++) {
            due("senior(" + place + ")", x.senior(place), want[place]);
        }
        x.leave(1);
        x.choose(1);
        int[] later = {0, 1, 2, 3, NONE};
        for (int place = 0; place < later.length; place++) {
            due("senior(" + place + ") later", x.senior(place), later[place]);
        }
    }

    private static void p21Shabby() {
        PittanceHouse x = waiting(6);
        due("shabby(0)", x.shabby(0), NONE);
        x.choose(5);
        x.choose(2);
        x.weeks(52);
        x.voice(0, 5);
        x.choose(0);
        x.choose(1);
        for (int far : FAR) {
            due("shabby(" + far + ")", x.shabby(far), NONE);
        }
        int[] want = {0, 1, 5, 2, NONE};
        for (int place = 0; place < want.length; place++) {
            due("shabby(" + place + ")", x.shabby(place), want[place]);
        }
        x.weeks(52);
        int[] later = {5, 2, 0, 1, NONE};
        for (int place = 0; place < later.length; place++) {
            due("shabby(" + place + ") later", x.shabby(place), later[place]);
        }
    }

    private static void p22NextFeast() {
        PittanceHouse x = new PittanceHouse();
        due("nextFeast()", x.nextFeast(), NOTHING);
        x.feast(51, 1);
        due("nextFeast()", x.nextFeast(), 51);
        x.feast(2, 1);
        due("nextFeast()", x.nextFeast(), 2);
        x.weeks(2);
        due("nextFeast()", x.nextFeast(), 0);
        x.weeks(1);
        due("nextFeast()", x.nextFeast(), 48);
        x.weeks(49);
        due("nextFeast()", x.nextFeast(), 2);
        PittanceHouse y = new PittanceHouse();
        y.feast(0, 1);
        y.weeks(1);
        due("nextFeast() in a year", y.nextFeast(), 51);
    }

    private static void p23WouldGet() {
        PittanceHouse x = housed(3, 2);
        x.feast(0, 9);
        x.feast(7, 4);
        x.breach(1, 0);
        due("wouldGet(3, 1)", x.wouldGet(3, 1), NONE);
        due("wouldGet(3, 61)", x.wouldGet(3, 61), NONE);
        due("wouldGet(0, -1)", x.wouldGet(0, -1), BAD);
        due("wouldGet(0, 61)", x.wouldGet(0, 61), BAD);
        for (int far : FAR) {
            due("wouldGet(" + far + ", 1)", x.wouldGet(far, 1), NONE);
            due("wouldGet(0, " + far + ")", x.wouldGet(0, far), BAD);
        }
        due("wouldGet(0, 0)", x.wouldGet(0, 0), 0);
        due("wouldGet(0, 1)", x.wouldGet(0, 1), 9);
        due("wouldGet(0, 7)", x.wouldGet(0, 7), 9);
        due("wouldGet(0, 8)", x.wouldGet(0, 8), 13);
        due("wouldGet(0, 60)", x.wouldGet(0, 60), 26);
        due("wouldGet(1, 60) with a ban", x.wouldGet(1, 60), 17);
        due("wouldGet(2, 60) of one who waits", x.wouldGet(2, 60), 0);
        due("nothing has gone by", x.account(1) + x.brotherOf(0, 6), 0);
        due("the changes", x.account(16), 8);
        due("the chest", x.account(9), 100);
        x.weeks(1);
        due("wouldGet(0, 7) behind a week", x.wouldGet(0, 7), 4);
        due("what he got", x.brotherOf(0, 6), 9);
    }

    private static void p24ChestIn() {
        PittanceHouse x = housed(3, 2);
        x.feast(3, 9);
        due("chestIn(-1)", x.chestIn(-1), BAD);
        due("chestIn(61)", x.chestIn(61), BAD);
        for (int far : FAR) {
            due("chestIn(" + far + ")", x.chestIn(far), BAD);
        }
        due("chestIn(0)", x.chestIn(0), 100);
        due("chestIn(3)", x.chestIn(3), 136);
        due("chestIn(4)", x.chestIn(4), 130);
        due("chestIn(60)", x.chestIn(60), 100 + 720 - 36);
        due("nothing has gone by", x.account(9), 100);
        x.weeks(52);
        due("chestIn(52) with gowns", x.chestIn(52), x.account(9) + 624 - 18 - 16);
        for (int i = 0; i < 25; i++) {
            x.gift(500);
        }
        due("chestIn(1) of a full one", x.chestIn(1), 9999);
    }

    private static void p25Append() {
        PittanceHouse x = new PittanceHouse();
        due("append(31)", x.append(31), BAD);
        due("append(127)", x.append(127), BAD);
        for (int far : FAR) {
            due("append(" + far + ")", x.append(far), BAD);
        }
        due("append(32)", x.append(32), 1);
        due("append(126)", x.append(126), 2);
        for (int i = 3; i <= 60; i++) {
            due("append of " + i, x.append(48), i);
        }
        due("append of 61", x.append(48), FULL);
        due("append(31) of 61", x.append(31), BAD);
        due("account(15)", x.account(15), 60);
        due("run()", x.run(), -1000);
        due("account(15)", x.account(15), 0);
        due("append(48)", x.append(48), 1);
    }

    private static void p26Faults() {
        String[] texts = {"", " ", "x", "V", "b", "bx", "voice", "voicee", "voice ", "voice x", "voice 1", "voice 12",
            "voice 123", "voice 1 ", "voice 1;", "voice 1  2", "voice 1 2;", "voice 1 23;;", "voice 1 234",
            "choose 12", "choose ;", "chooze 1", "leave 1 ", "leave 12", "leave 1;l", "breach 1 12", "breach 12 1;b 1",
            "pardon 123", "pardon 1 1", "pardo", "feast 51 10", "feast 512 1", "feast 1 -1", "gift 1000", "gift -1",
            "gift  1", "gift 1;gift 2;gift", "weeks 100", "weeks 1;;", "weeks 1; weeks 1", "weeks 1;weeks 1:",
            "gift 1;gift 1;gift 1;gift 1;gift 1;gift 1;gift 1;gift 1;giv", "gift 1;gift 1;gift 1;gift 1;gift 1;gift 1;"
            + "gift 1;gift 1;gift", "leave 9,", "leave1", "voice1 2"};
        int[] faults = {0, 0, 0, 0, 1, 1, 5, 5, 6, 6, 7, 8, 8, 8, 7, 8, 10, 11, 10, 8, 7, 4, 7, 7, 9, 10, 13, 9, 8, 5,
            10, 8, 8, 8, 5, 5, 18, 8, 8, 8, 15, 58, 60, 7, 5, 5};
        for (int i = 0; i < texts.length; i++) {
            PittanceHouse x = new PittanceHouse();
            due("run of \"" + texts[i] + "\"", orders(x, texts[i]), -1000 - faults[i]);
            due("the text behind it", x.account(15), 0);
            due("no change", x.account(16), 0);
            due("no reason", x.reason(false), NOTHING);
            due("the chest", x.account(9), 100);
        }
    }

    private static void p26Orders() {
        PittanceHouse x = waiting(12);
        due("choose", orders(x, "choose 0;choose 1;choose 7"), 3);
        due("inCell(7)", x.inCell(7), 2);
        due("one change", x.account(16), 8);
        due("voice", orders(x, "voice 0 11;voice 01 03;voice 2 11"), 3);
        due("voices(11)", x.voices(11), 4);
        due("voices(3)", x.voices(3), 2);
        due("breach and pardon", orders(x, "breach 0 4;breach 00 4;pardon 0;breach 1 0"), 4);
        due("his ban", x.brotherOf(0, 5), 0);
        due("his breaches", x.broke(0, 4), 2);
        due("the ban of the other", x.brotherOf(1, 5), 1);
        due("feasts and weeks", orders(x, "feast 0 9;feast 01 5;gift 007;weeks 2;weeks 01"), 5);
        due("account(9)", x.account(9), 100 + 7 - 18 - 15 + 30);
        due("what he got", x.brotherOf(0, 6), 14);
        due("leave", orders(x, "leave 7"), 1);
        due("how he is", x.brotherOf(2, 2), 3);
        x.undo();
        due("undone at once", x.undo(), 6);
        due("the week", x.account(1), 0);
        due("the feasts", x.account(8), 0);
        due("eight orders", orders(x, "gift 1;gift 2;gift 3;gift 4;gift 5;gift 6;gift 7;gift 500"), 8);
        due("account(9)", x.account(9), 628);
    }

    private static void p26Refused() {
        PittanceHouse x = housed(4, 2);
        String[] texts = {"gift 0", "gift 5;gift 501", "weeks 1;weeks 0", "weeks 61", "gift 9;choose 8", "choose 0",
            "leave 5", "gift 1;gift 2;leave 9", "voice 0 99", "voice 99 2", "voice 3 2", "breach 0 5", "breach 9 0",
            "pardon 0", "feast 52 1", "feast 1 0", "breach 0 1;breach 0 1;breach 0 1;pardon 0", "choose 2;choose 2",
            "choose 2;choose 3;choose 4"};
        int[] which = {0, 1, 1, 0, 1, 0, 0, 2, 0, 0, 0, 0, 0, 0, 0, 0, 3, 1, 2};
        for (int i = 0; i < texts.length; i++) {
            refused(x, "run of \"" + texts[i] + "\"", orders(x, texts[i]), 11, which[i]);
            due("the text behind it", x.account(15), 0);
            due("the chest behind it", x.account(9), 100);
            due("the week behind it", x.account(1), 0);
            due("the changes behind it", x.account(16), 6);
            due("those in cells behind it", x.account(4), 2);
        }
        due("a fault behind what is refused", orders(x, "choose 0;gif"), -1012);
        due("the reason stays", x.reason(true), 2);
    }

    private static void p27Tell() {
        PittanceHouse x = new PittanceHouse();
        line(x, x.tell(), "- - - - - - - -");
        x = waiting(16);
        for (int i = 0; i < 3; i++) {
            x.withdraw(i);
        }
        due("choose(0)", x.choose(0), 3);
        for (int b = 4; b < 11; b++) {
            x.withdraw(b);
        }
        due("choose(3)", x.choose(3), 11);
        x.breach(3, 0);
        line(x, x.tell(), "3! - - 11 - - - -");
        x.weeks(1);
        line(x, x.tell(), "3 - - 11 - - - -");
        due("choose(7)", x.choose(7), 12);
        line(x, x.tell(), "3 - - 11 - - - 12");
    }

    private static void p27OldGowns() {
        PittanceHouse x = housed(8, 8);
        for (int i = 0; i < 6; i++) {
            x.feast(i, 9);
        }
        x.weeks(52);
        line(x, x.tell(), "0 1 2 3 4 5 6 7");
        due("the chest", x.account(9), 4);
        x.weeks(52);
        line(x, x.tell(), "0* 1* 2* 3* 4* 5* 6* 7*");
        x.breach(2, 0);
        x.leave(5);
        line(x, x.tell(), "0* 1* 2!* 3* 4* - 6* 7*");
        x.weeks(52);
        line(x, x.tell(), "0 1 2 3 4 - 6 7");
    }

    private static void p28TellWaiting() {
        PittanceHouse x = new PittanceHouse();
        due("tellWaiting()", x.tellWaiting(), 0);
        due("character(0)", x.character(0), NONE);
        x = housed(12, 8);
        for (int b = 0; b < 8; b++) {
            x.voice(b, 11);
        }
        line(x, x.tellWaiting(), "8:0,9k:0,10:0,11k:16");
        x.voice(0, 8);
        x.voice(1, 9);
        line(x, x.tellWaiting(), "8:1,9k:2,10:0,11k:12");
        x.withdraw(9);
        line(x, x.tellWaiting(), "8:1,10:0,11k:12");
        PittanceHouse all = waiting(16);
        line(all, all.tellWaiting(), "0:0,1k:0,2:0,3k:0,4:0,5k:0,6:0,7k:0,8:0,9k:0,10:0,11k:0,12:0,13k:0,14:0,15k:0");
    }

    private static void p29Character() {
        PittanceHouse x = waiting(1);
        due("character(0) at first", x.character(0), NONE);
        x.tellWaiting();
        for (int far : FAR) {
            due("character(" + far + ")", x.character(far), NONE);
        }
        due("character(2)", x.character(2), '0');
        due("character(3)", x.character(3), NONE);
        x.tell();
        due("character(14)", x.character(14), '-');
        x.choose(0);
        due("the line stays", x.character(0), '-');
        x.undo();
        x.save();
        x.restore();
        due("the line stays", x.character(14), '-');
        x.tellWaiting();
        due("in place of the line before", x.character(3), NONE);
    }

    private static void p30Reason() {
        PittanceHouse x = waiting(1);
        due("reason(false)", x.reason(false), NOTHING);
        due("reason(true)", x.reason(true), NOTHING);
        x.come(10, false);
        x.leave(9);
        due("reason of codes", x.reason(false), NOTHING);
        x.leave(0);
        due("reason(false)", x.reason(false), 7);
        due("reason(true)", x.reason(true), 0);
        x.choose(0);
        due("it stays", x.reason(false), 7);
        x.save();
        refused(x, "choose(0)", x.choose(0), 5, 0);
        x.undo();
        due("it is not undone", x.reason(false), 5);
        x.restore();
        due("it is not saved", x.reason(false), 5);
        x.wouldGet(0, 60);
        orders(x, "gift");
        due("it stays", x.reason(false), 5);
    }

    private static void p31Account() {
        PittanceHouse x = housed(10, 5);
        due("account(-1)", x.account(-1), BAD);
        due("account(17)", x.account(17), BAD);
        for (int far : FAR) {
            due("account(" + far + ")", x.account(far), BAD);
        }
        x.feast(0, 3);
        x.feast(9, 1);
        x.weeks(60);
        x.weeks(60);
        x.gift(11);
        x.leave(0);
        x.withdraw(9);
        x.withdraw(8);
        for (int i = 0; i < 3; i++) {
            x.breach(1, 1);
        }
        x.breach(2, 0);
        x.breach(3, 0);
        x.breach(4, 0);
        x.pardon(4);
        x.append(48);
        int paid = 3 * (5 * 3 + 5);
        int came = 11 + 120 * 6;
        int[] want = {2, 16, 10, 3, 3, 1, 3, 2, 2, 100 + came - paid - 40, came, paid, 40, 5, 1, 1, 8};
        for (int what = 0; what <= 16; what++) {
            due("account(" + what + ")", x.account(what), want[what]);
        }
    }

    private static void p31Bans() {
        PittanceHouse x = housed(8, 8);
        for (int b = 0; b < 8; b++) {
            x.breach(b, 0);
            due("account(7)", x.account(7), b + 1);
        }
        x.pardon(0);
        due("account(7) behind a pardon", x.account(7), 7);
        x.leave(7);
        due("account(7) behind a leave", x.account(7), 6);
        x.weeks(1);
        due("account(7) behind a week", x.account(7), 0);
    }

    private static void p32IsBalanced() {
        PittanceHouse x = waiting(16);
        due("isBalanced()", x.isBalanced(), 1);
        for (int c = 0; c < 8; c++) {
            x.choose(c);
            x.feast(c % 6, 9);
        }
        for (int i = 0; i < 12; i++) {
            x.weeks(37);
            x.leave(i % 8);
            x.gift(33 * i + 1);
            x.breach(i, 0);
            due("isBalanced() in the round " + i, x.isBalanced(), 1);
            x.choose(i % 8);
            due("isBalanced() in the round " + i, x.isBalanced(), 1);
        }
        x.undo();
        due("isBalanced() behind undo", x.isBalanced(), 1);
    }

    private static void p33MeanAge() {
        PittanceHouse x = waiting(4);
        due("meanAge()", x.meanAge(), 0.0);
        x.choose(0);
        due("meanAge()", x.meanAge(), 50.0);
        x.choose(1);
        due("meanAge()", x.meanAge(), 50.5);
        x.choose(2);
        x.weeks(52);
        due("meanAge()", x.meanAge(), 52.0);
        x.leave(1);
        x.choose(1);
        due("meanAge()", x.meanAge(), 158.0 / 3.0);
    }

    private static void p34EntitledShare() {
        PittanceHouse x = waiting(4);
        due("entitledShare()", x.entitledShare(), 0.0f);
        for (int c = 0; c < 3; c++) {
            x.choose(c);
        }
        due("entitledShare()", x.entitledShare(), 1.0f);
        x.breach(1, 0);
        due("entitledShare()", x.entitledShare(), 2.0f / 3.0f);
        x.breach(0, 0);
        due("entitledShare()", x.entitledShare(), 1.0f / 3.0f);
        x.breach(2, 0);
        due("entitledShare()", x.entitledShare(), 0.0f);
    }

    private static void p35Undo() {
        PittanceHouse x = new PittanceHouse();
        due("undo()", x.undo(), NOTHING);
        for (int i = 0; i < 10; i++) {
            x.come(60, false);
        }
        due("account(16)", x.account(16), 8);
        for (int left = 7; left >= 0; left--) {
            due("undo()", x.undo(), left);
            due("account(2)", x.account(2), left + 2);
        }
        due("undo()", x.undo(), NOTHING);
        due("account(2)", x.account(2), 2);
        due("come(70, true)", x.come(70, true), 2);
        due("its age", x.brotherOf(2, 0), 70);
        x.choose(0);
        x.voice(0, 2);
        x.feast(0, 9);
        x.feast(0, 9);
        x.breach(0, 1);
        x.pardon(0);
        x.weeks(60);
        due("what is refused is no change", x.choose(0), REFUSED);
        due("nor a wrong number", x.gift(0), BAD);
        due("undo of weeks", x.undo(), 7);
        due("the week", x.account(1) + x.account(0), 0);
        due("the chest", x.account(9), 100);
        due("undo of pardon", x.undo(), 6);
        due("the ban", x.brotherOf(0, 5), 1);
        due("undo of breach", x.undo(), 5);
        due("broke(0, 1)", x.broke(0, 1), 0);
        due("undo of a feast as before", x.undo(), 4);
        due("account(8)", x.account(8), 1);
        due("undo of feast", x.undo(), 3);
        due("account(8)", x.account(8), 0);
        due("undo of voice", x.undo(), 2);
        due("voices(2)", x.voices(2), 0);
        due("undo of choose", x.undo(), 1);
        due("inCell(0)", x.inCell(0), NOTHING);
        due("his place", x.brotherOf(0, 9), 0);
        x.append(48);
        x.undo();
        due("the text stays", x.account(15), 1);
    }

    private static void p36And37SaveAndRestore() {
        PittanceHouse x = new PittanceHouse();
        due("restore()", x.restore(), NOTHING);
        due("save()", x.save(), 0);
        x.come(50, true);
        due("save()", x.save(), 1);
        due("save() is no change", x.account(16), 1);
        x.come(51, true);
        x.choose(3);
        x.feast(4, 4);
        x.weeks(60);
        due("undo() behind save", x.undo(), 4);
        x.append(48);
        due("restore()", x.restore(), 1);
        due("account(16)", x.account(16), 0);
        due("undo()", x.undo(), NOTHING);
        due("account(2)", x.account(2), 1);
        due("inCell(3)", x.inCell(3), NOTHING);
        due("nextFeast()", x.nextFeast(), NOTHING);
        due("account(9)", x.account(9), 100);
        due("account(15)", x.account(15), 1);
        x.choose(5);
        due("undo() behind restore", x.undo(), 0);
        x.choose(5);
        due("restore() again", x.restore(), 1);
        due("inCell(5)", x.inCell(5), NOTHING);
        x.choose(5);
        due("save()", x.save(), 1);
        x.leave(5);
        due("restore()", x.restore(), 1);
        due("inCell(5)", x.inCell(5), 0);
    }

    public static void main(String[] args) {
        about("1"); p1New();
        about("2"); p2Come();
        about("3"); p3Withdraw();
        about("4"); p4Voice();
        about("5"); p5Choose();
        about("6"); p6Leave();
        about("7"); p7Feast();
        about("8"); p8Breach();
        about("9"); p9Pardon();
        about("10"); p10Gift();
        about("11"); p11WeeksBounds(); p11SmallChest(); p11RentsBehindTheFeast(); p11Gowns(); p11GownsBounds(); p11Ages();
        about("12"); p12BrotherOf();
        about("13"); p13Broke();
        about("14"); p14InCell();
        about("15, 16"); p15And16Entitled();
        about("17, 18"); p17And18Voices();
        about("19"); p19Ranked();
        about("20"); p20Senior();
        about("21"); p21Shabby();
        about("22"); p22NextFeast();
        about("23"); p23WouldGet();
        about("24"); p24ChestIn();
        about("25"); p25Append();
        about("26"); p26Faults(); p26Orders(); p26Refused();
        about("27"); p27Tell(); p27OldGowns();
        about("28"); p28TellWaiting();
        about("29"); p29Character();
        about("30"); p30Reason();
        about("31"); p31Account(); p31Bans();
        about("32"); p32IsBalanced();
        about("33"); p33MeanAge();
        about("34"); p34EntitledShare();
        about("35"); p35Undo();
        about("36, 37"); p36And37SaveAndRestore();
        end("the promises hold");
    }
}
