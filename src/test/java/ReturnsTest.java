import java.util.function.IntUnaryOperator;

/** A test for each answer that a promise names, at the edges: too small, too large, empty, full, around, refused. */
public final class ReturnsTest extends Checks {

    /** Asks for numbers far out of any range. */
    private static void far(IntUnaryOperator call, int want) {
        for (int number : FAR) {
            is(call.applyAsInt(number), want);
        }
    }

    // ---- 1: a new object

    @Says(of = 1, value = "Creates an almshouse without brethren and feasts.")
    static void aNewHouseHas100PenceAndNothingElse() {
        PittanceHouse x = new PittanceHouse();
        for (int what = 0; what <= 16; what++) {
            is(x.account(what), what == 9 ? 100 : 0);
        }
        is(x.nextFeast(), NOTHING);
        is(x.brotherOf(0, 0), NONE);
        is(x.ranked(0), NONE);
        is(x.senior(0), NONE);
        is(x.shabby(0), NONE);
    }

    @Says(of = 1, value = "Creates an almshouse without brethren and feasts.")
    static void housesShareNothing() {
        PittanceHouse x = new PittanceHouse();
        PittanceHouse y = new PittanceHouse();
        x.come(60, true);
        x.feast(0, 1);
        x.save();
        x.tell();
        x.leave(0);
        is(y.account(2), 0);
        is(y.account(8), 0);
        is(y.restore(), NOTHING);
        is(y.character(0), NONE);
        is(y.reason(false), NOTHING);
    }

    // ---- 2: come

    @Says(of = 2, value = "Lets a brother come, who waits then.")
    static void whoComesWaits() {
        PittanceHouse x = new PittanceHouse();
        x.come(60, true);
        is(x.brotherOf(0, 2), 0);
        is(x.brotherOf(0, 9), 0);
        is(x.account(3), 1);
    }

    @Says(of = 2, value = "Returns his number")
    static void theFirstAndTheLastNumber() {
        PittanceHouse x = new PittanceHouse();
        for (int b = 0; b < 16; b++) {
            is(x.come(60, false), b);
        }
    }

    @Says(of = 2, value = "BAD if the age is out of range")
    static void agesOutOfRange() {
        PittanceHouse x = new PittanceHouse();
        is(x.come(49, true), BAD);
        is(x.come(91, true), BAD);
        is(x.come(0, false), BAD);
        far(age -> x.come(age, false), BAD);
        is(x.account(2), 0);
    }

    @Says(of = 2, value = "REFUSED for the reason 1.")
    static void comeIsRefused() {
        PittanceHouse x = waiting(16);
        refused(x, x.come(50, false), 1, 16);
        refused(x, x.come(90, false), 1, 16);
    }

    // ---- 3: withdraw

    @Says(of = 3, value = "Lets a brother who waits leave the line")
    static void thoseBehindHimComeForward() {
        PittanceHouse x = waiting(3);
        x.withdraw(1);
        is(x.brotherOf(0, 9), 0);
        is(x.brotherOf(1, 9), NOTHING);
        is(x.brotherOf(2, 9), 1);
    }

    @Says(of = 3, value = "he has left then.")
    static void whoWithdrewHasLeft() {
        PittanceHouse x = waiting(1);
        x.withdraw(0);
        is(x.brotherOf(0, 2), 3);
    }

    @Says(of = 3, value = "Returns how many wait then")
    static void theLineGetsEmpty() {
        PittanceHouse x = waiting(16);
        for (int b = 15; b >= 0; b--) {
            is(x.withdraw(b), b);
        }
    }

    @Says(of = 3, value = "NONE if there is no such brother")
    static void withdrawOfNobody() {
        PittanceHouse x = waiting(15);
        is(x.withdraw(15), NONE);
        is(x.withdraw(16), NONE);
        is(x.withdraw(-1), NONE);
        far(x::withdraw, NONE);
        is(new PittanceHouse().withdraw(0), NONE);
    }

    @Says(of = 3, value = "REFUSED for the reason 2.")
    static void withdrawIsRefused() {
        PittanceHouse x = putOut(housed(3, 2), 1);
        x.withdraw(2);
        refused(x, x.withdraw(0), 2, 1);
        refused(x, x.withdraw(1), 2, 2);
        refused(x, x.withdraw(2), 2, 3);
    }

    // ---- 4: voice

    @Says(of = 4, value = "Gives the voice of a brother to one who waits.")
    static void theVoiceIsGiven() {
        PittanceHouse x = housed(16, 1);
        x.voice(0, 15);
        is(x.brotherOf(0, 8), 15);
        x.voice(0, 1);
        is(x.brotherOf(0, 8), 1);
    }

    @Says(of = 4, value = "Returns how many voices count for him then")
    static void oneVoiceUpToSixteen() {
        PittanceHouse x = housed(16, 8);
        for (int b = 0; b < 8; b++) {
            is(x.voice(b, 15), 2 * b + 2);
        }
        for (int b = 0; b < 8; b++) {
            is(x.voice(b, 14), b + 1);
        }
        is(x.voice(7, 14), 8);
    }

    @Says(of = 4, value = "NONE if there is no such brother")
    static void voiceOfNobodyAndForNobody() {
        PittanceHouse x = housed(3, 1);
        is(x.voice(3, 1), NONE);
        is(x.voice(-1, 1), NONE);
        is(x.voice(0, 3), NONE);
        is(x.voice(0, -1), NONE);
        is(x.voice(2, 3), NONE);
        far(b -> x.voice(b, 1), NONE);
        far(b -> x.voice(0, b), NONE);
        is(new PittanceHouse().voice(0, 0), NONE);
    }

    @Says(of = 4, value = "REFUSED for the reason 3 or 4 for the one")
    static void voiceIsRefusedForTheOne() {
        PittanceHouse x = housed(4, 2);
        x.breach(1, 0);
        refused(x, x.voice(2, 3), 3, 0);
        refused(x, x.voice(1, 3), 4, 1);
        x.leave(1);
        refused(x, x.voice(1, 3), 3, 3);
    }

    @Says(of = 4, value = "or 2 for the other.")
    static void voiceIsRefusedForTheOther() {
        PittanceHouse x = housed(4, 3);
        x.leave(2);
        refused(x, x.voice(0, 0), 2, 1);
        refused(x, x.voice(0, 1), 2, 1);
        refused(x, x.voice(0, 2), 2, 3);
    }

    // ---- 5: choose

    @Says(of = 5, value = "Chooses a brother for a cell.")
    static void whoIsChosenIsInTheCell() {
        PittanceHouse x = waiting(2);
        x.choose(7);
        is(x.inCell(7), 0);
        is(x.brotherOf(0, 2), 1);
        is(x.brotherOf(0, 3), 7);
        is(x.brotherOf(1, 9), 0);
        is(x.account(3), 1);
    }

    @Says(of = 5, value = "Returns the brother")
    static void theOneOfMostVoicesAndThenTheFirst() {
        PittanceHouse x = housed(16, 1);
        x.voice(0, 15);
        is(x.choose(1), 15);
        is(x.choose(2), 1);
    }

    @Says(of = 5, value = "NONE if there is no such cell")
    static void chooseForNoCell() {
        PittanceHouse x = waiting(1);
        is(x.choose(-1), NONE);
        is(x.choose(8), NONE);
        far(x::choose, NONE);
        is(x.account(3), 1);
    }

    @Says(of = 5, value = "REFUSED for the reason 5 or 6.")
    static void chooseIsRefused() {
        PittanceHouse x = housed(2, 1);
        refused(x, x.choose(0), 5, 0);
        x.choose(7);
        refused(x, x.choose(7), 5, 1);
        refused(x, x.choose(6), 6, 6);
    }

    // ---- 6: leave

    @Says(of = 6, value = "Lets the brother in a cell leave, who has left then.")
    static void whoLeavesHasLeft() {
        PittanceHouse x = housed(2, 2);
        x.leave(1);
        is(x.brotherOf(1, 2), 3);
        is(x.brotherOf(1, 3), NOTHING);
        is(x.inCell(1), NOTHING);
        is(x.inCell(0), 0);
    }

    @Says(of = 6, value = "Returns the brother")
    static void theBrotherOfTheFirstAndTheLastCell() {
        PittanceHouse x = waiting(2);
        x.choose(7);
        x.choose(0);
        is(x.leave(7), 0);
        is(x.leave(0), 1);
    }

    @Says(of = 6, value = "NONE if there is no such cell")
    static void leaveOfNoCell() {
        PittanceHouse x = housed(8, 8);
        is(x.leave(-1), NONE);
        is(x.leave(8), NONE);
        far(x::leave, NONE);
        is(x.account(4), 8);
    }

    @Says(of = 6, value = "REFUSED for the reason 7.")
    static void leaveIsRefused() {
        PittanceHouse x = housed(1, 1);
        refused(x, x.leave(7), 7, 7);
        x.leave(0);
        refused(x, x.leave(0), 7, 0);
    }

    // ---- 7: feast

    @Says(of = 7, value = "Tells a feast.")
    static void aFeastIsTold() {
        PittanceHouse x = new PittanceHouse();
        x.feast(5, 9);
        is(x.nextFeast(), 5);
    }

    @Says(of = 7, value = "Returns how many feasts there are then")
    static void oneFeastUpToSix() {
        PittanceHouse x = new PittanceHouse();
        for (int i = 1; i <= 6; i++) {
            is(x.feast(52 - i, 1), i);
            is(x.feast(52 - i, 9), i);
        }
    }

    @Says(of = 7, value = "BAD if a number is out of range")
    static void weeksAndPenceOfAFeastOutOfRange() {
        PittanceHouse x = new PittanceHouse();
        is(x.feast(-1, 5), BAD);
        is(x.feast(52, 5), BAD);
        is(x.feast(5, 0), BAD);
        is(x.feast(5, -1), BAD);
        is(x.feast(5, 10), BAD);
        far(week -> x.feast(week, 5), BAD);
        far(pence -> x.feast(5, pence), BAD);
        is(x.account(8), 0);
    }

    @Says(of = 7, value = "REFUSED for the reason 8.")
    static void feastIsRefused() {
        PittanceHouse x = new PittanceHouse();
        for (int i = 0; i < 6; i++) {
            x.feast(i, 1);
        }
        refused(x, x.feast(6, 1), 8, 6);
        is(x.feast(5, 2), 6);
    }

    // ---- 8: breach

    @Says(of = 8, value = "Tells that a brother broke a rule.")
    static void aBreachIsTold() {
        PittanceHouse x = housed(2, 2);
        x.breach(1, 4);
        is(x.broke(1, 4), 1);
        is(x.broke(0, 4), 0);
    }

    @Says(of = 8, value = "Returns for how many weeks his ban lasts then")
    static void bansAdd() {
        PittanceHouse x = housed(1, 1);
        is(x.breach(0, 0), 1);
        is(x.breach(0, 0), 3);
        is(x.breach(0, 4), 4);
        x.weeks(60);
        is(x.breach(0, 4), 2);
    }

    @Says(of = 8, value = "0 if he is put out")
    static void zeroForOneWhoIsPutOut() {
        PittanceHouse x = housed(1, 1);
        is(x.breach(0, 0), 1);
        is(x.breach(0, 0), 3);
        is(x.breach(0, 0), 0);
        is(x.brotherOf(0, 2), 2);
    }

    @Says(of = 8, value = "NONE if there is no such brother or rule")
    static void breachOfNobodyOrOfNoRule() {
        PittanceHouse x = housed(2, 1);
        is(x.breach(2, 0), NONE);
        is(x.breach(-1, 0), NONE);
        is(x.breach(0, 5), NONE);
        is(x.breach(0, -1), NONE);
        is(x.breach(1, 5), NONE);
        far(b -> x.breach(b, 0), NONE);
        far(rule -> x.breach(0, rule), NONE);
        is(x.brotherOf(0, 7), 0);
    }

    @Says(of = 8, value = "REFUSED for the reason 3.")
    static void breachIsRefused() {
        PittanceHouse x = putOut(housed(3, 2), 0);
        x.leave(1);
        refused(x, x.breach(0, 4), 3, 2);
        refused(x, x.breach(1, 4), 3, 3);
        refused(x, x.breach(2, 4), 3, 0);
        is(x.broke(0, 4), 3);
        is(x.broke(2, 4), 0);
    }

    // ---- 9: pardon

    @Says(of = 9, value = "Pardons a brother.")
    static void thePardonIsForOneBrother() {
        PittanceHouse x = housed(2, 2);
        x.breach(0, 0);
        x.breach(1, 0);
        x.pardon(1);
        is(x.brotherOf(0, 5), 1);
        is(x.brotherOf(1, 5), 0);
    }

    @Says(of = 9, value = "Returns for how many weeks his ban would have lasted")
    static void bansOfOneWeekAndOfMore() {
        PittanceHouse x = housed(2, 2);
        x.breach(0, 0);
        is(x.pardon(0), 1);
        for (int rule = 0; rule < 5; rule++) {
            x.breach(1, rule);
            x.breach(1, rule);
        }
        x.weeks(1);
        is(x.pardon(1), 14);
    }

    @Says(of = 9, value = "NONE if there is no such brother")
    static void pardonOfNobody() {
        PittanceHouse x = housed(2, 2);
        is(x.pardon(2), NONE);
        is(x.pardon(-1), NONE);
        is(x.pardon(16), NONE);
        far(x::pardon, NONE);
    }

    @Says(of = 9, value = "REFUSED for the reason 3, 10 or 9.")
    static void pardonIsRefused() {
        PittanceHouse x = housed(4, 3);
        refused(x, x.pardon(3), 3, 0);
        refused(x, x.pardon(2), 10, 2);
        x.breach(0, 0);
        x.breach(1, 0);
        x.breach(2, 0);
        x.pardon(0);
        x.pardon(1);
        refused(x, x.pardon(2), 9, 2);
        refused(x, x.pardon(1), 10, 1);
        refused(x, x.pardon(3), 3, 0);
    }

    // ---- 10: gift

    @Says(of = 10, value = "Puts a gift into the chest.")
    static void theGiftIsInTheChest() {
        PittanceHouse x = new PittanceHouse();
        x.gift(7);
        is(x.account(9), 107);
        is(x.account(10), 7);
    }

    @Says(of = 10, value = "its pence, 1 to 500")
    static void theLeastAndTheMostOfAGift() {
        PittanceHouse x = new PittanceHouse();
        is(x.gift(1), 101);
        is(x.gift(500), 601);
    }

    @Says(of = 10, value = "Returns the pence in the chest then")
    static void theAnswerGoesUpTo9999() {
        PittanceHouse x = rich(0, 0, 9498);
        is(x.gift(500), 9998);
        is(x.gift(1), 9999);
        is(x.gift(1), 9999);
        PittanceHouse y = rich(0, 0, 9500);
        is(y.gift(499), 9999);
        PittanceHouse z = rich(0, 0, 9500);
        is(z.gift(500), 9999);
    }

    @Says(of = 10, value = "BAD if the number is out of range.")
    static void giftsOutOfRange() {
        PittanceHouse x = new PittanceHouse();
        is(x.gift(0), BAD);
        is(x.gift(501), BAD);
        far(x::gift, BAD);
        is(x.account(9), 100);
    }

    // ---- 11: weeks

    @Says(of = 11, value = "Lets weeks go by.")
    static void weeksGoBy() {
        PittanceHouse x = new PittanceHouse();
        x.weeks(3);
        is(x.account(1), 3);
        is(x.account(9), 148);
    }

    @Says(of = 11, value = "Lets weeks go by.")
    static void weeksLeaveCellsVoicesAndBreachesAsTheyAre() {
        PittanceHouse x = waiting(9);
        x.choose(1);
        x.choose(0);
        x.voice(0, 8);
        x.breach(0, 0);
        x.breach(0, 0);
        x.feast(0, 5);
        is(x.weeks(1), 5);
        is(x.inCell(1), 0);
        is(x.inCell(0), 1);
        is(x.brotherOf(0, 8), 8);
        is(x.brotherOf(1, 8), NOTHING);
        is(x.brotherOf(0, 7), 2);
        is(x.brotherOf(0, 1), 0);
        is(x.account(3), 7);
    }

    @Says(of = 11, value = "how many, 1 to 60")
    static void oneWeekAndSixty() {
        PittanceHouse x = new PittanceHouse();
        is(x.weeks(1), 0);
        is(x.account(1), 1);
        is(x.weeks(60), 0);
        is(x.account(0) * 52 + x.account(1), 61);
    }

    @Says(of = 11, value = "Returns the pence that brethren get in them, all together")
    static void thePenceOfThoseWeeksAlone() {
        PittanceHouse x = housed(3, 3);
        x.feast(0, 2);
        x.feast(3, 5);
        is(x.weeks(1), 6);
        is(x.weeks(2), 0);
        is(x.weeks(60), 15 + 6 + 15);
        is(x.weeks(41), 0);
        is(x.weeks(1), 6);
    }

    @Says(of = 11, value = "Returns the pence that brethren get in them, all together")
    static void thePenceForGownsAreNotCounted() {
        PittanceHouse x = housed(2, 2);
        is(x.weeks(60), 0);
        is(x.weeks(60), 0);
        is(x.account(12), 16);
    }

    @Says(of = 11, value = "BAD if the number is out of range.")
    static void weeksOutOfRange() {
        PittanceHouse x = new PittanceHouse();
        is(x.weeks(0), BAD);
        is(x.weeks(61), BAD);
        far(x::weeks, BAD);
        is(x.account(1), 0);
    }

    // ---- 12: brotherOf

    @Says(of = 12, value = "Returns a number of a brother.")
    static void theFirstAndTheLastBrother() {
        PittanceHouse x = waiting(16);
        is(x.brotherOf(0, 0), 50);
        is(x.brotherOf(15, 0), 65);
    }

    @Says(of = 12, value = "0 for his age")
    static void hisAgeStaysWhenHeIsGone() {
        PittanceHouse x = housed(2, 1);
        x.weeks(52);
        x.leave(0);
        x.weeks(52);
        is(x.brotherOf(0, 0), 51);
        is(x.brotherOf(1, 0), 53);
    }

    @Says(of = 12, value = "1 for 1 if he is kin, and 0 otherwise")
    static void whetherHeIsKin() {
        PittanceHouse x = housed(2, 2);
        x.weeks(60);
        x.leave(1);
        is(x.brotherOf(0, 1), 0);
        is(x.brotherOf(1, 1), 1);
    }

    @Says(of = 12, value = "2 for how he is")
    static void howHeIs() {
        PittanceHouse x = putOut(housed(4, 3), 1);
        x.leave(2);
        is(x.brotherOf(3, 2), 0);
        is(x.brotherOf(0, 2), 1);
        is(x.brotherOf(1, 2), 2);
        is(x.brotherOf(2, 2), 3);
    }

    @Says(of = 12, value = "3 for his cell, NOTHING without one")
    static void hisCell() {
        PittanceHouse x = waiting(4);
        x.choose(7);
        x.choose(0);
        x.choose(4);
        x.leave(4);
        is(x.brotherOf(0, 3), 7);
        is(x.brotherOf(1, 3), 0);
        is(x.brotherOf(2, 3), NOTHING);
        is(x.brotherOf(3, 3), NOTHING);
        is(putOut(x, 0).brotherOf(0, 3), NOTHING);
    }

    @Says(of = 12, value = "4 for how old his gown is, NOTHING without a cell")
    static void hisGown() {
        PittanceHouse x = housed(3, 2);
        is(x.brotherOf(0, 4), 0);
        is(x.brotherOf(2, 4), NOTHING);
        x.weeks(52);
        is(x.brotherOf(0, 4), 1);
        is(x.brotherOf(2, 4), NOTHING);
        x.leave(0);
        putOut(x, 1);
        is(x.brotherOf(0, 4), NOTHING);
        is(x.brotherOf(1, 4), NOTHING);
    }

    @Says(of = 12, value = "5 for how many weeks his ban lasts")
    static void hisBan() {
        PittanceHouse x = housed(2, 1);
        is(x.brotherOf(0, 5), 0);
        x.breach(0, 0);
        x.breach(0, 0);
        is(x.brotherOf(0, 5), 3);
        is(x.brotherOf(1, 5), 0);
        x.weeks(3);
        is(x.brotherOf(0, 5), 0);
    }

    @Says(of = 12, value = "6 for the pence that he got so far")
    static void thePenceStayHisWhenHeIsGone() {
        PittanceHouse x = housed(3, 2);
        x.feast(0, 9);
        x.feast(1, 1);
        x.weeks(2);
        x.leave(0);
        putOut(x, 1);
        x.weeks(60);
        is(x.brotherOf(0, 6), 10);
        is(x.brotherOf(1, 6), 10);
        is(x.brotherOf(2, 6), 0);
    }

    @Says(of = 12, value = "7 for the rules broken so far, each as often as it was")
    static void hisBreachesAllTogether() {
        PittanceHouse x = housed(1, 1);
        is(x.brotherOf(0, 7), 0);
        for (int rule = 0; rule < 5; rule++) {
            x.breach(0, rule);
            x.breach(0, rule);
        }
        is(x.brotherOf(0, 7), 10);
        x.breach(0, 0);
        is(x.brotherOf(0, 7), 11);
    }

    @Says(of = 12, value = "8 for the one to whom he gave his voice, NOTHING without one")
    static void hisVoice() {
        PittanceHouse x = housed(16, 2);
        is(x.brotherOf(0, 8), NOTHING);
        is(x.brotherOf(15, 8), NOTHING);
        x.voice(0, 15);
        is(x.brotherOf(0, 8), 15);
        is(x.brotherOf(1, 8), NOTHING);
        x.withdraw(15);
        is(x.brotherOf(0, 8), NOTHING);
    }

    @Says(of = 12, value = "9 for his place in the line, from 0, NOTHING if he does not wait")
    static void hisPlaceInTheLine() {
        PittanceHouse x = waiting(16);
        is(x.brotherOf(0, 9), 0);
        is(x.brotherOf(15, 9), 15);
        x.choose(0);
        is(x.brotherOf(0, 9), NOTHING);
        is(x.brotherOf(15, 9), 14);
        x.withdraw(7);
        is(x.brotherOf(7, 9), NOTHING);
        is(x.brotherOf(6, 9), 5);
        is(x.brotherOf(8, 9), 6);
        x.leave(0);
        is(x.brotherOf(0, 9), NOTHING);
    }

    @Says(of = 12, value = "9 for his place in the line")
    static void hisPlaceIsNotHisRank() {
        PittanceHouse x = housed(4, 1);
        x.voice(0, 3);
        is(x.ranked(0), 3);
        is(x.brotherOf(3, 9), 2);
        is(x.brotherOf(1, 9), 0);
    }

    @Says(of = 12, value = "Returns the number")
    static void tenNumbersOfOneBrother() {
        PittanceHouse x = housed(3, 2);
        x.feast(0, 4);
        x.weeks(52);
        x.voice(1, 2);
        x.breach(1, 3);
        int[] want = {52, 1, 1, 1, 1, 1, 4, 1, 2, NOTHING};
        for (int what = 0; what <= 9; what++) {
            is(x.brotherOf(1, what), want[what]);
        }
    }

    @Says(of = 12, value = "NONE if there is no such brother")
    static void numbersOfNobody() {
        PittanceHouse x = waiting(3);
        for (int what = 0; what <= 9; what++) {
            is(x.brotherOf(3, what), NONE);
            is(x.brotherOf(-1, what), NONE);
        }
        is(x.brotherOf(3, 10), NONE);
        far(b -> x.brotherOf(b, 0), NONE);
        is(waiting(16).brotherOf(16, 0), NONE);
    }

    @Says(of = 12, value = "BAD if what is not from 0 to 9.")
    static void noSuchNumberOfABrother() {
        PittanceHouse x = waiting(1);
        is(x.brotherOf(0, -1), BAD);
        is(x.brotherOf(0, 10), BAD);
        far(what -> x.brotherOf(0, what), BAD);
    }

    // ---- 13: broke

    @Says(of = 13, value = "Returns how often a brother broke a rule.")
    static void breachesRuleByRule() {
        PittanceHouse x = housed(2, 2);
        x.breach(1, 0);
        x.breach(1, 4);
        x.breach(1, 4);
        int[] want = {1, 0, 0, 0, 2};
        for (int rule = 0; rule <= 4; rule++) {
            is(x.broke(1, rule), want[rule]);
            is(x.broke(0, rule), 0);
        }
    }

    @Says(of = 13, value = "Returns how often")
    static void noneUpToThreeBreaches() {
        PittanceHouse x = housed(1, 1);
        for (int times = 0; times < 3; times++) {
            is(x.broke(0, 2), times);
            x.breach(0, 2);
        }
        is(x.broke(0, 2), 3);
        x.breach(0, 2);
        is(x.broke(0, 2), 3);
    }

    @Says(of = 13, value = "NONE if there is no such brother or rule.")
    static void breachesOfNobodyOrOfNoRule() {
        PittanceHouse x = waiting(2);
        is(x.broke(2, 0), NONE);
        is(x.broke(-1, 0), NONE);
        is(x.broke(0, 5), NONE);
        is(x.broke(0, -1), NONE);
        far(b -> x.broke(b, 0), NONE);
        far(rule -> x.broke(0, rule), NONE);
    }

    // ---- 14: inCell

    @Says(of = 14, value = "Returns the brother in a cell.")
    static void aCellAfterTheOther() {
        PittanceHouse x = waiting(8);
        for (int cell = 7; cell >= 0; cell--) {
            x.choose(cell);
        }
        for (int cell = 0; cell < 8; cell++) {
            is(x.inCell(cell), 7 - cell);
        }
    }

    @Says(of = 14, value = "Returns the brother")
    static void theBrotherZeroIsNotNothing() {
        PittanceHouse x = housed(1, 1);
        is(x.inCell(0), 0);
        is(x.inCell(1), NOTHING);
    }

    @Says(of = 14, value = "NONE if there is no such cell")
    static void noSuchCell() {
        PittanceHouse x = housed(8, 8);
        is(x.inCell(-1), NONE);
        is(x.inCell(8), NONE);
        far(x::inCell, NONE);
    }

    @Says(of = 14, value = "NOTHING if it is empty.")
    static void anEmptyCell() {
        PittanceHouse x = waiting(2);
        is(x.inCell(0), NOTHING);
        is(x.inCell(7), NOTHING);
        x.choose(0);
        x.leave(0);
        is(x.inCell(0), NOTHING);
        x.choose(7);
        putOut(x, 1);
        is(x.inCell(7), NOTHING);
    }

    // ---- 15 and 16: entitled, entitledAgain

    @Says(of = 15, value = "Returns the brethren who would get pence if there was a feast now: by the brethren.")
    static void whoIsEntitled() {
        PittanceHouse x = housed(5, 4);
        is(x.entitled(), 0xf);
        x.leave(0);
        is(x.entitled(), 0xe);
        x.breach(1, 0);
        is(x.entitled(), 0xc);
        putOut(x, 2);
        is(x.entitled(), 0x8);
        x.weeks(1);
        is(x.entitled(), 0xa);
    }

    @Says(of = 15, value = "Returns the set, bit k for the brother k.")
    static void theEmptySetAndTheBits0And15() {
        PittanceHouse x = waiting(16);
        is(x.entitled(), 0);
        x.choose(4);
        is(x.entitled(), 1);
        for (int b = 1; b < 15; b++) {
            x.withdraw(b);
        }
        x.choose(2);
        is(x.entitled(), 0x8001);
        x.leave(4);
        is(x.entitled(), 0x8000);
        x.breach(15, 0);
        is(x.entitled(), 0);
        is(new PittanceHouse().entitled(), 0);
    }

    @Says(of = 16, value = "Returns the same by a second way: by the cells.")
    static void whoIsEntitledByTheCells() {
        PittanceHouse x = housed(5, 4);
        is(x.entitledAgain(), 0xf);
        x.leave(0);
        is(x.entitledAgain(), 0xe);
        x.breach(1, 0);
        is(x.entitledAgain(), 0xc);
        putOut(x, 2);
        is(x.entitledAgain(), 0x8);
        x.weeks(1);
        is(x.entitledAgain(), 0xa);
    }

    @Says(of = 16, value = "Returns the set.")
    static void theEmptySetAndTheBits0And15ByTheCells() {
        PittanceHouse x = waiting(16);
        is(x.entitledAgain(), 0);
        x.choose(7);
        is(x.entitledAgain(), 1);
        for (int b = 1; b < 15; b++) {
            x.withdraw(b);
        }
        x.choose(0);
        is(x.entitledAgain(), 0x8001);
        x.leave(7);
        is(x.entitledAgain(), 0x8000);
        is(new PittanceHouse().entitledAgain(), 0);
    }

    // ---- 17 and 18: voices, voicesAgain

    private static final int[] COUNTED = {0, 0, 0, 0, 0, 0, 0, 0, 1, 4, 0, 8};

    private static PittanceHouse voicesOf0To16() {
        PittanceHouse x = housed(12, 8);
        x.voice(0, 8);
        x.voice(1, 9);
        x.voice(2, 9);
        for (int b = 4; b < 8; b++) {
            x.voice(b, 11);
        }
        return x;
    }

    @Says(of = 17, value = "Returns how many voices count for a brother: by those who gave theirs.")
    static void voicesOfAll() {
        PittanceHouse x = voicesOf0To16();
        for (int b = 0; b < 12; b++) {
            is(x.voices(b), COUNTED[b]);
        }
        for (int b = 0; b < 8; b++) {
            x.voice(b, 11);
        }
        is(x.voices(11), 16);
        is(x.voices(9), 0);
    }

    @Says(of = 17, value = "Returns how many, 0 if he does not wait")
    static void noVoicesForOneWhoWaitsNoLonger() {
        PittanceHouse x = voicesOf0To16();
        is(x.choose(0), REFUSED);
        x.leave(3);
        is(x.choose(3), 11);
        is(x.voices(11), 0);
        x.withdraw(9);
        is(x.voices(9), 0);
        is(x.voices(0), 0);
        is(x.voices(8), 1);
        is(x.voices(3), 0);
    }

    @Says(of = 17, value = "NONE if there is no such brother.")
    static void voicesForNobody() {
        PittanceHouse x = housed(3, 1);
        x.voice(0, 2);
        is(x.voices(3), NONE);
        is(x.voices(-1), NONE);
        is(x.voices(NOTHING), NONE);
        is(x.voices(16), NONE);
        far(x::voices, NONE);
        is(new PittanceHouse().voices(0), NONE);
    }

    @Says(of = 18, value = "Returns the same by a second way: voice by voice, each of which counts for the one to whom it was "
        + "given.")
    static void voicesOfAllAgain() {
        PittanceHouse x = voicesOf0To16();
        for (int b = 0; b < 12; b++) {
            is(x.voicesAgain(b), COUNTED[b]);
        }
        for (int b = 0; b < 8; b++) {
            x.voice(b, 11);
        }
        is(x.voicesAgain(11), 16);
        is(x.voicesAgain(9), 0);
    }

    @Says(of = 18, value = "Returns how many")
    static void noVoicesForOneWhoWaitsNoLongerAgain() {
        PittanceHouse x = voicesOf0To16();
        x.leave(3);
        is(x.choose(3), 11);
        is(x.voicesAgain(11), 0);
        x.withdraw(9);
        is(x.voicesAgain(9), 0);
        is(x.voicesAgain(0), 0);
        is(x.voicesAgain(8), 1);
        is(x.voicesAgain(3), 0);
    }

    @Says(of = 18, value = "NONE if there is no such brother.")
    static void voicesForNobodyAgain() {
        PittanceHouse x = housed(3, 1);
        x.voice(0, 2);
        is(x.voicesAgain(3), NONE);
        is(x.voicesAgain(-1), NONE);
        is(x.voicesAgain(NOTHING), NONE);
        is(x.voicesAgain(16), NONE);
        far(x::voicesAgain, NONE);
        is(new PittanceHouse().voicesAgain(0), NONE);
    }

    // ---- 19 to 21: ranked, senior, shabby

    @Says(of = 19, value = "Returns one who waits by how many voices count for him: the most first")
    static void moreVoicesAreAheadOfThePlaceInTheLine() {
        PittanceHouse x = voicesOf0To16();
        int[] want = {11, 9, 8, 10};
        for (int place = 0; place < 4; place++) {
            is(x.ranked(place), want[place]);
        }
    }

    @Says(of = 19, value = "of several the one who is ahead in the line.")
    static void asManyVoicesGoByTheLine() {
        PittanceHouse x = housed(6, 3);
        x.voice(2, 5);
        x.voice(1, 4);
        x.voice(0, 4);
        int[] want = {4, 5, 3};
        for (int place = 0; place < 3; place++) {
            is(x.ranked(place), want[place]);
        }
        PittanceHouse y = waiting(16);
        for (int place = 0; place < 16; place++) {
            is(y.ranked(place), place);
        }
    }

    @Says(of = 19, value = "Returns the brother")
    static void theFirstAndTheLastRank() {
        PittanceHouse x = housed(16, 1);
        x.voice(0, 15);
        is(x.ranked(0), 15);
        is(x.ranked(14), 14);
        is(x.ranked(15), NONE);
    }

    @Says(of = 19, value = "NONE if there is no such place.")
    static void noSuchRank() {
        PittanceHouse x = housed(4, 2);
        is(x.ranked(-1), NONE);
        is(x.ranked(1), 3);
        is(x.ranked(2), NONE);
        far(x::ranked, NONE);
        x.withdraw(2);
        is(x.ranked(1), NONE);
        x.withdraw(3);
        is(x.ranked(0), NONE);
        is(waiting(16).ranked(16), NONE);
    }

    @Says(of = 19, value = "the place, from 0")
    static void ranksBeginWith0() {
        PittanceHouse x = housed(2, 1);
        is(x.ranked(0), 1);
        is(x.ranked(1), NONE);
        is(x.ranked(-1), NONE);
    }

    @Says(of = 20, value = "Returns a brother in a cell by how long he is there: the one who came first is first.")
    static void neitherNumbersNorCellsMakeSeniors() {
        PittanceHouse x = waiting(5);
        x.choose(6);
        x.voice(0, 4);
        x.choose(7);
        x.choose(0);
        x.choose(3);
        int[] want = {0, 4, 1, 2};
        for (int place = 0; place < 4; place++) {
            is(x.senior(place), want[place]);
        }
        x.leave(6);
        x.choose(6);
        int[] later = {4, 1, 2, 3};
        for (int place = 0; place < 4; place++) {
            is(x.senior(place), later[place]);
        }
    }

    @Says(of = 20, value = "Returns the brother")
    static void theFirstAndTheLastSenior() {
        PittanceHouse x = housed(8, 8);
        is(x.senior(0), 0);
        is(x.senior(7), 7);
        x.leave(7);
        x.undo();
        is(x.senior(7), 7);
    }

    /** Each of the brethren 0 to 7 has left his cell, and the brethren 8 to 15 came into it in their order. */
    private static PittanceHouse allWereInCells() {
        PittanceHouse x = housed(16, 8);
        for (int cell = 0; cell < 8; cell++) {
            x.leave(cell);
            x.choose(cell);
        }
        return x;
    }

    @Says(of = 20, value = "the one who came first is first.")
    static void theSixteenthWhoIsChosenIsTheLastSenior() {
        PittanceHouse x = allWereInCells();
        is(x.senior(7), 15);
        for (int cell = 0; cell < 7; cell++) {
            x.leave(cell);
            is(x.senior(0), 9 + cell);
        }
        is(x.senior(0), 15);
        is(x.senior(1), NONE);
        is(x.shabby(0), 15);
    }

    @Says(of = 20, value = "NONE if there is no such place.")
    static void noSuchSenior() {
        PittanceHouse x = housed(16, 8);
        is(x.senior(8), NONE);
        is(x.senior(-1), NONE);
        far(x::senior, NONE);
        x.leave(0);
        is(x.senior(6), 7);
        is(x.senior(7), NONE);
        is(waiting(3).senior(0), NONE);
    }

    @Says(of = 20, value = "the place, from 0")
    static void seniorsBeginWith0() {
        PittanceHouse x = housed(2, 1);
        is(x.senior(0), 0);
        is(x.senior(1), NONE);
        is(x.senior(-1), NONE);
    }

    @Says(of = 21, value = "Returns a brother in a cell by how old his gown is: the oldest first")
    static void anOlderGownIsAheadOfTheSenior() {
        PittanceHouse x = poor(4);
        x.weeks(50);
        is(x.shabby(0), 1);
        is(x.shabby(6), 7);
        is(x.shabby(7), 0);
        is(x.senior(0), 0);
    }

    @Says(of = 21, value = "of several the one who came into his cell first.")
    static void gownsOfOneAgeGoByTheSeniors() {
        PittanceHouse x = waiting(5);
        x.choose(6);
        x.voice(0, 4);
        x.choose(7);
        x.choose(0);
        x.weeks(52);
        x.choose(1);
        int[] want = {0, 4, 1, 2};
        for (int place = 0; place < 4; place++) {
            is(x.shabby(place), want[place]);
        }
    }

    @Says(of = 21, value = "Returns the brother")
    static void theFirstAndTheLastGown() {
        PittanceHouse x = housed(8, 8);
        is(x.shabby(0), 0);
        is(x.shabby(7), 7);
    }

    @Says(of = 21, value = "the one who came into his cell first.")
    static void theSixteenthWhoIsChosenIsTheLastOfNewGowns() {
        PittanceHouse x = allWereInCells();
        is(x.shabby(0), 8);
        is(x.shabby(7), 15);
        x.weeks(52);
        is(x.shabby(7), 15);
    }

    @Says(of = 21, value = "NONE if there is no such place.")
    static void noSuchGown() {
        PittanceHouse x = housed(16, 8);
        is(x.shabby(8), NONE);
        is(x.shabby(-1), NONE);
        far(x::shabby, NONE);
        putOut(x, 3);
        is(x.shabby(6), 7);
        is(x.shabby(7), NONE);
        is(waiting(3).shabby(0), NONE);
    }

    @Says(of = 21, value = "the place, from 0")
    static void gownsBeginWith0() {
        PittanceHouse x = housed(2, 1);
        is(x.shabby(0), 0);
        is(x.shabby(1), NONE);
        is(x.shabby(-1), NONE);
    }

    // ---- 22: nextFeast

    @Says(of = 22, value = "Returns in how many weeks there is a feast.")
    static void theNearestFeastThisYearOrTheNext() {
        PittanceHouse x = new PittanceHouse();
        x.feast(51, 1);
        is(x.nextFeast(), 51);
        x.feast(20, 1);
        is(x.nextFeast(), 20);
        x.weeks(21);
        is(x.nextFeast(), 30);
        x.weeks(31);
        is(x.nextFeast(), 20);
        x.weeks(51);
        x.feast(0, 1);
        is(x.nextFeast(), 0);
    }

    @Says(of = 22, value = "Returns in how many weeks there is a feast.")
    static void aroundTheEndOfTheYear() {
        PittanceHouse x = new PittanceHouse();
        x.feast(0, 1);
        x.weeks(1);
        is(x.nextFeast(), 51);
        x.weeks(50);
        is(x.nextFeast(), 1);
        x.weeks(1);
        is(x.nextFeast(), 0);
    }

    @Says(of = 22, value = "0 if this week has one")
    static void aFeastInThisWeek() {
        PittanceHouse x = new PittanceHouse();
        x.feast(0, 1);
        x.feast(1, 1);
        is(x.nextFeast(), 0);
        x.weeks(51);
        x.feast(51, 1);
        is(x.nextFeast(), 0);
    }

    @Says(of = 22, value = "NOTHING without feasts.")
    static void noFeastAtAll() {
        PittanceHouse x = new PittanceHouse();
        is(x.nextFeast(), NOTHING);
        x.weeks(60);
        is(x.nextFeast(), NOTHING);
        x.feast(0, 1);
        x.undo();
        is(x.nextFeast(), NOTHING);
    }

    // ---- 23 and 24: wouldGet, chestIn

    @Says(of = 23, value = "Returns the pence that a brother would get if only weeks went by.")
    static void itOnlyWouldBe() {
        PittanceHouse x = housed(2, 1);
        x.feast(0, 5);
        is(x.wouldGet(0, 60), 10);
        is(x.wouldGet(0, 60), 10);
        is(x.brotherOf(0, 6), 0);
        is(x.account(0) + x.account(1), 0);
        is(x.account(9), 100);
        is(x.brotherOf(0, 4), 0);
        is(x.account(16), 4);
        is(x.wouldGet(1, 60), 0);
    }

    @Says(of = 23, value = "how many, 0 to 60")
    static void inNoWeekAndInSixty() {
        PittanceHouse x = housed(1, 1);
        x.feast(0, 4);
        x.feast(7, 1);
        x.feast(8, 9);
        is(x.wouldGet(0, 0), 0);
        is(x.wouldGet(0, 1), 4);
        is(x.wouldGet(0, 59), 14 + 4);
        is(x.wouldGet(0, 60), 14 + 5);
    }

    @Says(of = 23, value = "Returns the pence")
    static void thePenceToComeAndNotThoseHeGot() {
        PittanceHouse x = housed(9, 8);
        x.feast(0, 9);
        x.feast(1, 9);
        x.weeks(1);
        is(x.wouldGet(0, 1), 3);
        x.breach(0, 0);
        is(x.wouldGet(0, 1), 0);
        is(x.wouldGet(1, 1), 4);
        x.leave(1);
        is(x.wouldGet(1, 60), 0);
        is(x.wouldGet(8, 60), 0);
    }

    @Says(of = 23, value = "NONE if there is no such brother")
    static void nobodyWouldGetAnything() {
        PittanceHouse x = housed(2, 2);
        is(x.wouldGet(2, 1), NONE);
        is(x.wouldGet(-1, 1), NONE);
        is(x.wouldGet(2, 61), NONE);
        far(b -> x.wouldGet(b, 1), NONE);
    }

    @Says(of = 23, value = "BAD if the number is out of range.")
    static void weeksToComeOutOfRange() {
        PittanceHouse x = housed(2, 2);
        is(x.wouldGet(0, -1), BAD);
        is(x.wouldGet(0, 61), BAD);
        far(weeks -> x.wouldGet(0, weeks), BAD);
    }

    @Says(of = 24, value = "Returns the pence that would be in the chest if only weeks went by.")
    static void theChestOnlyWouldBeSo() {
        PittanceHouse x = housed(2, 2);
        x.feast(2, 9);
        is(x.chestIn(2), 124);
        is(x.chestIn(3), 118);
        is(x.chestIn(3), 118);
        is(x.account(9), 100);
        is(x.account(10), 0);
        is(x.account(1), 0);
        is(x.account(16), 5);
    }

    @Says(of = 24, value = "how many, 0 to 60")
    static void theChestNowAndInSixtyWeeks() {
        PittanceHouse x = new PittanceHouse();
        is(x.chestIn(0), 100);
        is(x.chestIn(1), 116);
        is(x.chestIn(60), 1060);
    }

    @Says(of = 24, value = "Returns the pence")
    static void theChestWithGownsAndWhenItIsFull() {
        PittanceHouse x = housed(8, 8);
        x.weeks(52);
        is(x.chestIn(51), 100);
        is(x.chestIn(52), 36);
        is(x.account(12), 0);
        PittanceHouse y = rich(0, 0, 9990);
        is(y.chestIn(0), 9990);
        is(y.chestIn(1), 9999);
        is(y.chestIn(60), 9999);
        PittanceHouse z = poor(4);
        z.feast(2, 1);
        is(z.chestIn(1), 0);
        is(z.chestIn(60), 0);
    }

    @Says(of = 24, value = "BAD if the number is out of range.")
    static void weeksOfTheChestOutOfRange() {
        PittanceHouse x = new PittanceHouse();
        is(x.chestIn(-1), BAD);
        is(x.chestIn(61), BAD);
        far(x::chestIn, BAD);
    }

    // ---- 25: append

    @Says(of = 25, value = "Appends a character to the text.")
    static void characterByCharacter() {
        PittanceHouse x = new PittanceHouse();
        is(orders(x, "gift 12"), 1);
        is(x.account(9), 112);
    }

    @Says(of = 25, value = "the code of the character, 32 to 126")
    static void theLeastAndTheLargestCode() {
        PittanceHouse x = new PittanceHouse();
        is(x.append(32), 1);
        is(x.append(126), 2);
    }

    @Says(of = 25, value = "Returns the length of the text")
    static void theLengthUpTo60() {
        PittanceHouse x = new PittanceHouse();
        for (int length = 1; length <= 60; length++) {
            is(x.append('v'), length);
        }
        is(x.run(), -1001);
        is(x.append('v'), 1);
    }

    @Says(of = 25, value = "BAD if the code is out of range")
    static void codesOutOfRange() {
        PittanceHouse x = new PittanceHouse();
        is(x.append(31), BAD);
        is(x.append(127), BAD);
        is(x.append(0), BAD);
        is(x.append('g' + 256), BAD);
        is(x.append('g' + 65536), BAD);
        far(x::append, BAD);
        is(x.account(15), 0);
    }

    @Says(of = 25, value = "FULL if the text has 60 characters.")
    static void aTextOf60IsFull() {
        PittanceHouse x = append(new PittanceHouse(), "gift 1;gift 1;gift 1;gift 1;gift 1;gift 1;gift 1;feast 51 1");
        is(x.account(15), 59);
        is(x.append(' '), 60);
        is(x.append('1'), FULL);
        is(x.append(126), FULL);
        is(x.account(15), 60);
        is(x.run(), -1059);
        is(x.append('1'), 1);
    }

    // ---- 26: run

    @Says(of = 26, value = "Reads the text as orders and carries them out, all or none.")
    static void allOrNone() {
        PittanceHouse x = waiting(2);
        is(orders(x, "choose 3;gift 9"), 2);
        is(x.inCell(3), 0);
        is(x.account(9), 109);
        is(orders(x, "choose 4;gift 9;leave 5"), REFUSED);
        is(x.inCell(4), NOTHING);
        is(x.account(9), 109);
        is(orders(x, "choose 4;gift 9;leave"), -1021);
        is(x.inCell(4), NOTHING);
        is(x.account(9), 109);
    }

    @Says(of = 26, value = "Returns how many orders")
    static void oneOrderUpToEight() {
        PittanceHouse x = new PittanceHouse();
        StringBuilder text = new StringBuilder();
        for (int many = 1; many <= 8; many++) {
            text.append(many > 1 ? ";" : "").append("gift ").append(many);
            is(orders(x, text.toString()), many);
        }
        is(x.account(9), 100 + 8 + 2 * 7 + 3 * 6 + 4 * 5 + 5 * 4 + 6 * 3 + 7 * 2 + 8);
    }

    @Says(of = 26, value = "Returns how many orders")
    static void aTextOf60Characters() {
        PittanceHouse x = new PittanceHouse();
        String text = "gift 1;gift 2;gift 3;gift 4;gift 5;gift 6;gift 07;feast 51 9";
        is(text.length(), 60);
        is(orders(x, text), 8);
        is(x.account(9), 128);
        is(x.account(8), 1);
    }

    @Says(of = 26, value = "-1000 minus the fault position if the text is wrong")
    static void theFirstAndTheLastFaultPosition() {
        is(runNew(""), -1000);
        is(runNew("~"), -1000);
        is(runNew("gift 1~"), -1006);
        is(runNew("gift 1;gift 2;gift 3;gift 4;gift 5;gift 6;gift 07;feast 51 ~"), -1059);
        is(runNew("gift 1;gift 2;gift 3;gift 4;gift 5;gift 6;gift 07;feast 511 "), -1058);
        is(runNew("gift 1;gift 2;gift 3;gift 4;gift 5;gift 6;gift 7;feast 51 1;"), -1060);
    }

    @Says(of = 26, value = "REFUSED for the reason 11.")
    static void runIsRefused() {
        PittanceHouse x = waiting(16);
        refused(x, orders(x, "leave 0"), 11, 0);
        refused(x, orders(x, "choose 0;choose 0"), 11, 1);
        refused(x, orders(x, "choose 0;voice 0 0"), 11, 1);
        refused(x, orders(x, "choose 0;breach 0 1;breach 0 1;breach 0 1;pardon 0"), 11, 4);
        refused(x, orders(x, "gift 0"), 11, 0);
        refused(x, orders(x, "choose 9"), 11, 0);
        is(x.account(4), 0);
    }

    // ---- 27: tell

    @Says(of = 27, value = "Writes the cells, in place of the line before: for each cell, with a blank between two")
    static void eightCellsOfTwoDigits() {
        PittanceHouse x = housed(16, 8);
        for (int cell = 0; cell < 8; cell++) {
            x.leave(cell);
            x.choose(cell);
            x.breach(8 + cell, 0);
        }
        line(x, x.tell(), "8! 9! 10! 11! 12! 13! 14! 15!");
    }

    @Says(of = 27, value = "in place of the line before")
    static void theCellsReplaceALongerLine() {
        PittanceHouse x = waiting(16);
        x.tellWaiting();
        line(x, x.tell(), "- - - - - - - -");
        x.choose(0);
        line(x, x.tell(), "0 - - - - - - -");
    }

    @Says(of = 27, value = "\"-\" if it is empty, or its brother")
    static void emptyCellsAndBrethren() {
        PittanceHouse x = waiting(2);
        line(x, x.tell(), "- - - - - - - -");
        x.choose(7);
        line(x, x.tell(), "- - - - - - - 0");
        x.choose(0);
        line(x, x.tell(), "1 - - - - - - 0");
        x.leave(7);
        line(x, x.tell(), "1 - - - - - - -");
    }

    @Says(of = 27, value = "\"!\" if he is under a ban")
    static void aBanOfOneWeekIsSeen() {
        PittanceHouse x = housed(2, 2);
        x.breach(1, 0);
        line(x, x.tell(), "0 1! - - - - - -");
        x.weeks(1);
        line(x, x.tell(), "0 1 - - - - - -");
    }

    @Says(of = 27, value = "\"*\" if his gown is 2 years old or older")
    static void gownsOfOneTwoAndThreeYears() {
        PittanceHouse x = poor(0);
        line(x, x.tell(), "0 1 2 3 4 5 6 7");
        x.weeks(50);
        is(x.brotherOf(0, 4), 2);
        line(x, x.tell(), "0* 1* 2* 3* 4* 5* 6* 7*");
        x.weeks(52);
        is(x.brotherOf(0, 4), 3);
        line(x, x.tell(), "0* 1* 2* 3* 4* 5* 6* 7*");
        x.leave(7);
        line(x, x.tell(), "0* 1* 2* 3* 4* 5* 6* -");
    }

    @Says(of = 27, value = "\"!\" if he is under a ban, and \"*\" if his gown is 2 years old or older")
    static void aBanAndAnOldGown() {
        PittanceHouse x = poor(0);
        x.weeks(50);
        x.breach(3, 0);
        line(x, x.tell(), "0* 1* 2* 3!* 4* 5* 6* 7*");
    }

    @Says(of = 27, value = "as in \"3! - 0* 11 - - - -\".")
    static void theLineOfTheDocument() {
        PittanceHouse x = waiting(12);
        x.choose(2);
        int[] others = {4, 5, 6, 7, 8, 9, 10};
        int[] cells = {0, 1, 3, 4, 5, 6, 7};
        for (int i = 0; i < 7; i++) {
            x.voice(0, others[i]);
            is(x.choose(cells[i]), others[i]);
        }
        x.weeks(52);
        drain(x, 0);
        x.weeks(50);
        for (int cell : cells) {
            x.leave(cell);
        }
        x.voice(0, 11);
        is(x.choose(3), 11);
        x.voice(0, 3);
        is(x.choose(0), 3);
        x.breach(3, 1);
        line(x, x.tell(), "3! - 0* 11 - - - -");
    }

    @Says(of = 27, value = "Returns the length of the line.")
    static void theShortestAndALongerLine() {
        PittanceHouse x = new PittanceHouse();
        is(x.tell(), 15);
        PittanceHouse y = housed(16, 2);
        for (int b = 2; b < 10; b++) {
            y.withdraw(b);
        }
        for (int cell = 2; cell < 8; cell++) {
            y.choose(cell);
        }
        is(y.tell(), 15 + 6);
        y.breach(10, 0);
        is(y.tell(), 15 + 7);
    }

    // ---- 28: tellWaiting

    @Says(of = 28, value = "Writes the line of those who wait, in place of the line before: for each, with \",\" between two, "
        + "his number")
    static void oneWhoWaitsUpToSixteen() {
        PittanceHouse x = new PittanceHouse();
        StringBuilder want = new StringBuilder();
        for (int b = 0; b < 16; b++) {
            x.come(60, false);
            want.append(b > 0 ? "," : "").append(b).append(":0");
            is(x.tellWaiting(), want.length());
        }
        isText(lineOf(x), want.toString());
    }

    @Says(of = 28, value = "in place of the line before")
    static void anEmptyLineReplacesALongerOne() {
        PittanceHouse x = new PittanceHouse();
        x.tell();
        line(x, x.tellWaiting(), "");
        is(x.character(0), NONE);
    }

    @Says(of = 28, value = "\"k\" if he is kin")
    static void kinAreMarked() {
        PittanceHouse x = waiting(3);
        line(x, x.tellWaiting(), "0:0,1k:0,2:0");
        x.withdraw(0);
        line(x, x.tellWaiting(), "1k:0,2:0");
    }

    @Says(of = 28, value = "\":\", and how many voices count for him")
    static void voicesOfOneAndTwoDigits() {
        PittanceHouse x = housed(12, 8);
        for (int b = 0; b < 8; b++) {
            x.voice(b, 11);
        }
        line(x, x.tellWaiting(), "8:0,9k:0,10:0,11k:16");
        x.voice(0, 8);
        x.voice(1, 10);
        x.voice(2, 9);
        line(x, x.tellWaiting(), "8:1,9k:2,10:1,11k:10");
    }

    /** The document's "4k:6,2:0" is not in the order of any line, since brethren join it by their numbers. */
    @Says(of = 28, value = "as in \"4k:6,2:0\".")
    static void theSignsOfTheDocumentsLine() {
        PittanceHouse x = new PittanceHouse();
        for (int b = 0; b < 6; b++) {
            x.come(60, b == 4);
        }
        x.choose(0);
        x.choose(1);
        x.voice(0, 3);
        x.choose(2);
        x.voice(0, 4);
        x.voice(1, 4);
        x.voice(3, 4);
        x.withdraw(5);
        line(x, x.tellWaiting(), "2:0,4k:6");
    }

    @Says(of = 28, value = "0 if nobody waits.")
    static void nobodyWaits() {
        PittanceHouse x = new PittanceHouse();
        is(x.tellWaiting(), 0);
        x.come(60, false);
        x.come(60, false);
        is(x.tellWaiting(), 7);
        x.choose(0);
        x.withdraw(1);
        is(x.tellWaiting(), 0);
        is(x.character(0), NONE);
    }

    @Says(of = 28, value = "Returns the length of the line")
    static void theLengthOfAShortLine() {
        PittanceHouse x = new PittanceHouse();
        x.come(60, false);
        is(x.tellWaiting(), 3);
        x.come(60, true);
        is(x.tellWaiting(), 8);
    }

    // ---- 29: character

    @Says(of = 29, value = "Returns a character of the line, which is empty at first.")
    static void theLineIsEmptyAtFirst() {
        PittanceHouse x = waiting(1);
        is(x.character(0), NONE);
        append(x, "gift 1");
        is(x.character(0), NONE);
        x.tellWaiting();
        is(x.character(0), '0');
    }

    @Says(of = 29, value = "Returns the code of the character")
    static void theFirstAndTheLastCharacter() {
        PittanceHouse x = housed(1, 1);
        x.tell();
        is(x.character(0), '0');
        is(x.character(1), ' ');
        is(x.character(14), '-');
    }

    @Says(of = 29, value = "the index, from 0")
    static void charactersBeginWith0() {
        PittanceHouse x = new PittanceHouse();
        x.come(60, true);
        x.tellWaiting();
        int[] want = {'0', 'k', ':', '0', NONE};
        for (int i = 0; i < 5; i++) {
            is(x.character(i), want[i]);
        }
        is(x.character(-1), NONE);
    }

    @Says(of = 29, value = "NONE if there is none.")
    static void noSuchCharacter() {
        PittanceHouse x = waiting(16);
        x.tellWaiting();
        x.tell();
        is(x.character(-1), NONE);
        is(x.character(14), '-');
        is(x.character(15), NONE);
        is(x.character(16), NONE);
        far(x::character, NONE);
    }

    // ---- 30: reason

    @Says(of = 30, value = "Returns the latest reason, or its detail.")
    static void theLatestOfSeveral() {
        PittanceHouse x = waiting(1);
        x.leave(3);
        is(x.reason(false), 7);
        is(x.reason(true), 3);
        x.choose(4);
        x.choose(4);
        is(x.reason(false), 5);
        is(x.reason(true), 0);
        orders(x, "gift 1;gift 0");
        is(x.reason(false), 11);
        is(x.reason(true), 1);
    }

    @Says(of = 30, value = "Returns the number")
    static void aDetailOfZeroIsNotNothing() {
        PittanceHouse x = new PittanceHouse();
        x.leave(0);
        is(x.reason(true), 0);
        is(x.reason(false), 7);
    }

    @Says(of = 30, value = "NOTHING if nothing was refused.")
    static void nothingWasRefused() {
        PittanceHouse x = waiting(1);
        is(x.reason(false), NOTHING);
        is(x.reason(true), NOTHING);
        x.come(91, false);
        x.withdraw(1);
        x.choose(8);
        x.undo();
        x.restore();
        x.run();
        is(x.reason(false), NOTHING);
        is(x.reason(true), NOTHING);
    }

    // ---- 31: account

    @Says(of = 31, value = "Returns an account.")
    static void accountsOfOneHouse() {
        PittanceHouse x = housed(5, 3);
        x.feast(0, 2);
        x.weeks(54);
        x.leave(2);
        x.withdraw(4);
        x.breach(0, 0);
        int[] want = {1, 2, 5, 1, 2, 0, 2, 1, 1, 100 + 540 - 12, 540, 12, 0, 0, 0, 0, 8};
        for (int what = 0; what <= 16; what++) {
            is(x.account(what), want[what]);
        }
    }

    @Says(of = 31, value = "0 for the year")
    static void theYear() {
        PittanceHouse x = new PittanceHouse();
        x.weeks(51);
        is(x.account(0), 0);
        x.weeks(1);
        is(x.account(0), 1);
        x.weeks(60);
        is(x.account(0), 2);
    }

    @Says(of = 31, value = "1 for the week")
    static void theWeek() {
        PittanceHouse x = new PittanceHouse();
        x.weeks(51);
        is(x.account(1), 51);
        x.weeks(1);
        is(x.account(1), 0);
        x.weeks(60);
        is(x.account(1), 8);
    }

    @Says(of = 31, value = "2 for the brethren who came")
    static void theBrethrenWhoCame() {
        PittanceHouse x = waiting(16);
        is(x.account(2), 16);
        x.come(60, false);
        x.withdraw(3);
        is(x.account(2), 16);
        x.undo();
        x.undo();
        is(x.account(2), 15);
    }

    @Says(of = 31, value = "3 for those who wait")
    static void thoseWhoWait() {
        PittanceHouse x = waiting(16);
        is(x.account(3), 16);
        x.choose(0);
        is(x.account(3), 15);
        for (int b = 1; b < 16; b++) {
            x.withdraw(b);
            is(x.account(3), 15 - b);
        }
    }

    @Says(of = 31, value = "4 for those in cells")
    static void thoseInCells() {
        PittanceHouse x = housed(9, 8);
        is(x.account(4), 8);
        x.leave(0);
        is(x.account(4), 7);
        putOut(x, 1);
        is(x.account(4), 6);
    }

    @Says(of = 31, value = "5 for those put out")
    static void thosePutOut() {
        PittanceHouse x = housed(8, 8);
        for (int b = 0; b < 8; b++) {
            is(x.account(5), b);
            putOut(x, b);
        }
        is(x.account(5), 8);
    }

    @Says(of = 31, value = "6 for those who have left")
    static void thoseWhoHaveLeft() {
        PittanceHouse x = housed(4, 2);
        x.withdraw(3);
        is(x.account(6), 1);
        x.leave(0);
        is(x.account(6), 2);
        putOut(x, 1);
        is(x.account(6), 2);
    }

    @Says(of = 31, value = "7 for those under a ban")
    static void thoseUnderABan() {
        PittanceHouse x = housed(9, 8);
        for (int b = 0; b < 8; b++) {
            is(x.account(7), b);
            x.breach(b, 0);
        }
        is(x.account(7), 8);
        x.breach(0, 0);
        is(x.account(7), 8);
        x.weeks(1);
        is(x.account(7), 1);
        x.leave(0);
        is(x.account(7), 0);
    }

    @Says(of = 31, value = "8 for the feasts")
    static void theFeasts() {
        PittanceHouse x = new PittanceHouse();
        for (int i = 1; i <= 6; i++) {
            x.feast(i, 1);
            is(x.account(8), i);
        }
        x.feast(7, 1);
        x.feast(6, 2);
        x.weeks(60);
        is(x.account(8), 6);
    }

    @Says(of = 31, value = "9 for the pence in the chest")
    static void thePenceInTheChest() {
        PittanceHouse x = housed(1, 1);
        is(x.account(9), 100);
        x.feast(0, 9);
        x.weeks(1);
        is(x.account(9), 105);
        x.gift(5);
        is(x.account(9), 110);
    }

    @Says(of = 31, value = "10 for those that came into it so far, without the 100")
    static void thePenceThatCame() {
        PittanceHouse x = housed(1, 1);
        x.feast(0, 9);
        is(x.account(10), 0);
        x.weeks(1);
        is(x.account(10), 14);
        x.gift(500);
        is(x.account(10), 514);
    }

    @Says(of = 31, value = "11 for those paid to brethren so far")
    static void thePencePaidToBrethren() {
        PittanceHouse x = housed(2, 2);
        x.feast(0, 9);
        x.weeks(1);
        is(x.account(11), 18);
        x.leave(0);
        x.weeks(52);
        is(x.account(11), 27);
        x.weeks(52);
        is(x.account(11), 36);
    }

    @Says(of = 31, value = "12 for those paid for gowns so far")
    static void thePencePaidForGowns() {
        PittanceHouse x = housed(2, 2);
        x.weeks(52);
        is(x.account(12), 0);
        x.weeks(52);
        is(x.account(12), 16);
        x.leave(0);
        x.weeks(60);
        x.weeks(44);
        is(x.account(12), 24);
    }

    @Says(of = 31, value = "13 for the new gowns bought so far")
    static void theGownsBought() {
        PittanceHouse x = housed(2, 2);
        is(x.account(13), 0);
        x.weeks(60);
        x.weeks(44);
        is(x.account(13), 2);
        x.weeks(60);
        x.weeks(44);
        is(x.account(13), 4);
    }

    @Says(of = 31, value = "14 for the pardons given in this year")
    static void thePardonsOfTheYear() {
        PittanceHouse x = housed(1, 1);
        x.weeks(51);
        for (int rule = 0; rule < 3; rule++) {
            is(x.account(14), Math.min(rule, 2));
            x.breach(0, rule);
            x.pardon(0);
        }
        is(x.account(14), 2);
        x.weeks(1);
        is(x.account(14), 0);
    }

    @Says(of = 31, value = "15 for the characters of the text")
    static void theCharactersOfTheText() {
        PittanceHouse x = new PittanceHouse();
        for (int i = 0; i < 60; i++) {
            is(x.account(15), i);
            x.append(' ');
        }
        x.append(' ');
        is(x.account(15), 60);
        x.run();
        is(x.account(15), 0);
    }

    @Says(of = 31, value = "16 for the changes that can be undone")
    static void theChangesThatCanBeUndone() {
        PittanceHouse x = new PittanceHouse();
        for (int i = 0; i < 8; i++) {
            is(x.account(16), i);
            x.gift(1);
        }
        is(x.account(16), 8);
        x.gift(1);
        is(x.account(16), 8);
        x.undo();
        is(x.account(16), 7);
        x.save();
        is(x.account(16), 7);
        x.restore();
        is(x.account(16), 0);
    }

    @Says(of = 31, value = "Returns the account")
    static void theFirstAndTheLastAccount() {
        PittanceHouse x = new PittanceHouse();
        x.weeks(60);
        is(x.account(0), 1);
        is(x.account(16), 1);
    }

    @Says(of = 31, value = "BAD if what is not from 0 to 16.")
    static void noSuchAccount() {
        PittanceHouse x = new PittanceHouse();
        is(x.account(-1), BAD);
        is(x.account(17), BAD);
        far(x::account, BAD);
    }

    // ---- 32 to 34: isBalanced, meanAge, entitledShare

    @Says(of = 32, value = "Returns whether each brother in a cell is in one alone")
    static void balancedWhoeverIsInTheCells() {
        PittanceHouse x = housed(16, 8);
        is(x.isBalanced(), 1);
        x.leave(0);
        putOut(x, 7);
        is(x.isBalanced(), 1);
        x.choose(7);
        is(x.isBalanced(), 1);
        x.withdraw(15);
        is(x.isBalanced(), 1);
    }

    @Says(of = 32, value = "the pence in the chest are the 100 and those that came, less those paid")
    static void balancedWithAnEmptyAndWithAFullChest() {
        PittanceHouse x = poor(4);
        x.feast(2, 1);
        x.weeks(1);
        is(x.account(9), 0);
        is(x.isBalanced(), 1);
        PittanceHouse y = rich(1, 1, 9999);
        y.gift(500);
        y.weeks(60);
        y.weeks(60);
        is(y.account(9), 9999);
        is(y.isBalanced(), 1);
    }

    @Says(of = 32, value = "those paid to brethren are those that they got.")
    static void balancedWithPenceOfThoseWhoAreGone() {
        PittanceHouse x = housed(3, 3);
        x.feast(0, 7);
        x.weeks(1);
        x.leave(0);
        putOut(x, 1);
        is(x.isBalanced(), 1);
        is(x.brotherOf(0, 6) + x.brotherOf(1, 6) + x.brotherOf(2, 6), x.account(11));
        x.undo();
        is(x.isBalanced(), 1);
    }

    @Says(of = 32, value = "Returns 1 if it is so, 0 otherwise.")
    static void aNewHouseIsBalanced() {
        is(new PittanceHouse().isBalanced(), 1);
    }

    @Says(of = 33, value = "Returns the mean age of the brethren in cells: the sum divided by their number")
    static void thoseInNoCellDoNotCount() {
        PittanceHouse x = housed(6, 4);
        is(x.meanAge(), 51.5);
        x.leave(0);
        is(x.meanAge(), 52.0);
        putOut(x, 3);
        is(x.meanAge(), 51.5);
        x.weeks(52);
        is(x.meanAge(), 52.5);
    }

    @Says(of = 33, value = "both converted to double.")
    static void aThirdOfAYear() {
        PittanceHouse x = new PittanceHouse();
        x.come(50, false);
        x.come(50, false);
        x.come(51, false);
        for (int cell = 0; cell < 3; cell++) {
            x.choose(cell);
        }
        is(x.meanAge(), 151.0 / 3.0);
    }

    @Says(of = 33, value = "Returns the mean")
    static void theMeanOfOneAndOfEight() {
        PittanceHouse x = housed(8, 1);
        is(x.meanAge(), 50.0);
        for (int cell = 1; cell < 8; cell++) {
            x.choose(cell);
        }
        is(x.meanAge(), 53.5);
    }

    @Says(of = 33, value = "0.0 without brethren in cells.")
    static void noMeanAge() {
        PittanceHouse x = new PittanceHouse();
        is(x.meanAge(), 0.0);
        x.come(60, false);
        is(x.meanAge(), 0.0);
        x.choose(0);
        x.leave(0);
        is(x.meanAge(), 0.0);
    }

    @Says(of = 34, value = "Returns the share of the brethren in cells who are entitled")
    static void theShareOfThoseUnderNoBan() {
        PittanceHouse x = housed(6, 4);
        is(x.entitledShare(), 1.0f);
        x.breach(0, 0);
        is(x.entitledShare(), 0.75f);
        x.leave(0);
        is(x.entitledShare(), 1.0f);
        for (int b = 1; b < 4; b++) {
            x.breach(b, 0);
        }
        is(x.entitledShare(), 0.0f);
    }

    @Says(of = 34, value = "both numbers converted to float.")
    static void aThirdAsAFloat() {
        PittanceHouse x = housed(3, 3);
        x.breach(0, 0);
        is(x.entitledShare(), 2.0f / 3.0f);
        x.breach(1, 0);
        is(x.entitledShare(), 1.0f / 3.0f);
    }

    @Says(of = 34, value = "Returns the share")
    static void theShareOfOneAndOfEight() {
        PittanceHouse x = housed(8, 8);
        for (int b = 0; b < 7; b++) {
            x.breach(b, 1);
        }
        is(x.entitledShare(), 0.125f);
        PittanceHouse y = housed(1, 1);
        is(y.entitledShare(), 1.0f);
        y.breach(0, 1);
        is(y.entitledShare(), 0.0f);
    }

    @Says(of = 34, value = "0.0f without brethren in cells.")
    static void noShare() {
        PittanceHouse x = new PittanceHouse();
        is(x.entitledShare(), 0.0f);
        x.come(60, false);
        is(x.entitledShare(), 0.0f);
        x.choose(0);
        x.leave(0);
        is(x.entitledShare(), 0.0f);
    }

    // ---- 35 to 37: undo, save, restore

    @Says(of = 35, value = "Undoes the latest change.")
    static void allOfAChangeIsUndone() {
        PittanceHouse x = housed(3, 2);
        x.feast(0, 9);
        x.voice(0, 2);
        x.breach(1, 0);
        x.weeks(60);
        x.undo();
        is(x.account(0) + x.account(1), 0);
        is(x.account(9), 100);
        is(x.account(10), 0);
        is(x.account(11), 0);
        is(x.brotherOf(0, 0), 50);
        is(x.brotherOf(0, 4), 0);
        is(x.brotherOf(0, 6), 0);
        is(x.brotherOf(1, 5), 1);
        x.breach(1, 0);
        x.breach(1, 0);
        x.undo();
        is(x.brotherOf(1, 2), 1);
        is(x.brotherOf(1, 5), 3);
        is(x.inCell(1), 1);
        x.choose(5);
        x.undo();
        is(x.brotherOf(0, 8), 2);
        is(x.brotherOf(2, 9), 0);
    }

    @Says(of = 35, value = "Undoes the latest change.")
    static void aRunIsUndoneAtOnce() {
        PittanceHouse x = waiting(2);
        orders(x, "choose 0;choose 1;gift 5;weeks 60");
        is(x.undo(), 2);
        is(x.account(4), 0);
        is(x.account(9), 100);
        is(x.account(0), 0);
    }

    @Says(of = 35, value = "Returns the number of changes that can still be undone")
    static void sevenDownToNone() {
        PittanceHouse x = new PittanceHouse();
        for (int i = 0; i < 30; i++) {
            x.gift(1);
        }
        for (int left = 7; left >= 0; left--) {
            is(x.undo(), left);
            is(x.account(16), left);
        }
        is(x.account(9), 122);
    }

    @Says(of = 35, value = "NOTHING if there is none.")
    static void nothingToUndo() {
        PittanceHouse x = new PittanceHouse();
        is(x.undo(), NOTHING);
        x.gift(1);
        is(x.undo(), 0);
        is(x.undo(), NOTHING);
        is(x.undo(), NOTHING);
        is(x.account(9), 100);
        x.gift(0);
        is(x.undo(), NOTHING);
    }

    @Says(of = 36, value = "Saves all that changes can change, in place of an earlier snapshot.")
    static void allIsSaved() {
        PittanceHouse x = housed(5, 3);
        x.feast(0, 9);
        x.weeks(60);
        x.voice(0, 4);
        x.breach(1, 0);
        x.breach(2, 0);
        x.pardon(2);
        x.gift(3);
        x.save();
        String saved = portrait(x);
        x.restore();
        x.come(60, false);
        x.feast(1, 1);
        x.feast(0, 1);
        x.choose(7);
        x.leave(0);
        putOut(x, 1);
        x.pardon(2);
        x.weeks(60);
        x.withdraw(3);
        x.restore();
        isText(portraitHead(portrait(x)), portraitHead(saved));
    }

    /** A portrait without the number of changes and what they undo, which no snapshot holds. */
    private static String portraitHead(String portrait) {
        int end = portrait.indexOf(" undone");
        String head = portrait.substring(0, end < 0 ? portrait.indexOf(" restored") : end);
        String[] answers = head.trim().split(" ");
        answers[16] = "";
        return String.join(" ", answers);
    }

    @Says(of = 36, value = "in place of an earlier snapshot.")
    static void theLaterSnapshotCounts() {
        PittanceHouse x = new PittanceHouse();
        x.save();
        x.gift(1);
        x.save();
        x.gift(1);
        x.restore();
        is(x.account(9), 101);
        x.save();
        x.gift(5);
        x.restore();
        is(x.account(9), 101);
    }

    @Says(of = 36, value = "Returns the number of brethren who came.")
    static void saveOfNoneAndOfSixteen() {
        is(new PittanceHouse().save(), 0);
        PittanceHouse x = housed(16, 3);
        x.leave(0);
        x.withdraw(9);
        is(x.save(), 16);
    }

    @Says(of = 37, value = "Restores the snapshot, which stays.")
    static void theSnapshotCanBeRestoredAgain() {
        PittanceHouse x = new PittanceHouse();
        x.gift(1);
        x.save();
        for (int i = 0; i < 3; i++) {
            x.gift(5);
            x.weeks(60);
            is(x.restore(), 0);
            is(x.account(9), 101);
            is(x.account(1), 0);
        }
    }

    @Says(of = 37, value = "Restores the snapshot, which stays.")
    static void undoDoesNotTakeTheSnapshotAway() {
        PittanceHouse x = new PittanceHouse();
        x.gift(1);
        x.save();
        x.undo();
        is(x.account(9), 100);
        x.restore();
        is(x.account(9), 101);
    }

    @Says(of = 37, value = "Nothing can be undone then.")
    static void noUndoBehindRestore() {
        PittanceHouse x = waiting(9);
        x.save();
        is(x.account(16), 8);
        x.restore();
        is(x.account(16), 0);
        is(x.undo(), NOTHING);
        is(x.account(2), 9);
        x.gift(1);
        is(x.undo(), 0);
        is(x.undo(), NOTHING);
        is(x.account(2), 9);
    }

    @Says(of = 37, value = "Returns the number of brethren who came")
    static void restoreOfNoneAndOfSixteen() {
        PittanceHouse x = new PittanceHouse();
        x.save();
        x.come(60, false);
        is(x.restore(), 0);
        PittanceHouse y = waiting(16);
        y.save();
        y.withdraw(3);
        is(y.restore(), 16);
    }

    @Says(of = 37, value = "NOTHING if there is no snapshot.")
    static void noSnapshot() {
        PittanceHouse x = waiting(3);
        is(x.restore(), NOTHING);
        is(x.account(2), 3);
        is(x.account(16), 3);
        is(x.undo(), 2);
    }

    public static void main(String[] args) throws Exception {
        Sentences.test(ReturnsTest.class, 1, 37);
    }
}
