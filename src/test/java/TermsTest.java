/** A test for each sentence that the document says ahead of its promises, at the edges that the sentence names. */
public final class TermsTest extends Checks {

    @Says("An object is used for at most 512 calls after it has been made")
    static void the512thCallAnswersLikeAnyOther() {
        PittanceHouse x = new PittanceHouse();
        for (int call = 1; call <= 510; call++) {
            x.weeks(60);
        }
        is(x.account(0) * 52 + x.account(1), 510 * 60);
    }

    @Says("An object is used for at most 512 calls after it has been made")
    static void manyTextsAreReadInOneObject() {
        PittanceHouse x = new PittanceHouse();
        for (int i = 0; i < 73; i++) {
            is(orders(x, "gift 1"), 1);
        }
        is(x.account(9), 173);
    }

    // ---- brethren, cells

    @Says("Each pittance goes to one who kept the rules.")
    static void whoBrokeARuleGetsNoPittance() {
        PittanceHouse x = housed(3, 2);
        x.feast(0, 5);
        x.breach(0, 0);
        is(x.weeks(1), 5);
        is(x.brotherOf(0, 6), 0);
        is(x.brotherOf(1, 6), 5);
        is(x.brotherOf(2, 6), 0);
    }

    @Says("are rounded down if nothing else is said")
    static void sharesAreRoundedDown() {
        PittanceHouse x = housed(8, 8);
        x.feast(0, 9);
        x.feast(1, 9);
        x.weeks(1);
        is(x.gift(3), 31);
        is(x.weeks(1), 24);
        is(x.brotherOf(7, 6), 9 + 3);
    }

    @Says("All numbers are whole, but two")
    static void twoNumbersAreNotWhole() {
        PittanceHouse x = housed(2, 2);
        x.breach(0, 0);
        is(x.meanAge(), 50.5);
        is(x.entitledShare(), 0.5f);
    }

    @Says("At most 16 brethren come in all")
    static void the16thComesAndThe17thDoesNot() {
        PittanceHouse x = waiting(15);
        is(x.come(60, false), 15);
        refused(x, x.come(60, false), 1, 16);
        is(x.account(2), 16);
    }

    @Says("At most 16 brethren come in all")
    static void whoIsGoneMakesNoRoomForA17th() {
        PittanceHouse x = housed(16, 2);
        x.leave(0);
        x.withdraw(2);
        putOut(x, 1);
        refused(x, x.come(60, true), 1, 16);
        is(x.account(3), 13);
    }

    @Says("numbered from 0")
    static void aNumberIsNotGivenAgain() {
        PittanceHouse x = new PittanceHouse();
        is(x.come(60, false), 0);
        x.withdraw(0);
        is(x.come(60, false), 1);
        is(x.come(60, false), 2);
    }

    @Says("each of an age from 50 to 90")
    static void agesFrom50To90() {
        PittanceHouse x = new PittanceHouse();
        is(x.come(49, false), BAD);
        is(x.come(91, false), BAD);
        is(x.come(50, false), 0);
        is(x.come(90, false), 1);
        is(x.brotherOf(0, 0), 50);
        is(x.brotherOf(1, 0), 90);
    }

    @Says("and kin of the founder or not")
    static void kinOrNot() {
        PittanceHouse x = new PittanceHouse();
        x.come(60, true);
        x.come(60, false);
        is(x.brotherOf(0, 1), 1);
        is(x.brotherOf(1, 1), 0);
    }

    @Says("A brother waits, 0, as at first, in the line of those who wait, at its end")
    static void whoComesIsAtTheEndOfTheLine() {
        PittanceHouse x = housed(4, 1);
        x.withdraw(2);
        is(x.come(60, true), 4);
        is(x.brotherOf(4, 2), 0);
        is(x.brotherOf(4, 9), 2);
        is(x.ranked(2), 4);
        is(x.ranked(3), NONE);
    }

    @Says("A brother waits, 0, as at first, in the line of those who wait, at its end")
    static void whoComesIntoAnEmptyLineIsItsFirst() {
        PittanceHouse x = housed(2, 1);
        x.withdraw(1);
        x.come(60, false);
        is(x.brotherOf(2, 9), 0);
        is(x.ranked(0), 2);
    }

    @Says("is in a cell, 1")
    static void howHeIsInACell() {
        PittanceHouse x = housed(1, 1);
        is(x.brotherOf(0, 2), 1);
        is(x.account(4), 1);
    }

    @Says("was put out, 2")
    static void howHeIsWhenPutOut() {
        PittanceHouse x = putOut(housed(1, 1), 0);
        is(x.brotherOf(0, 2), 2);
        is(x.account(5), 1);
    }

    @Says("or has left, 3")
    static void howHeIsWhenHeHasLeft() {
        PittanceHouse x = housed(2, 1);
        x.leave(0);
        x.withdraw(1);
        is(x.brotherOf(0, 2), 3);
        is(x.brotherOf(1, 2), 3);
        is(x.account(6), 2);
    }

    @Says("There are the cells 0 to 7")
    static void theFirstAndTheLastCell() {
        PittanceHouse x = waiting(3);
        is(x.choose(-1), NONE);
        is(x.choose(8), NONE);
        is(x.choose(0), 0);
        is(x.choose(7), 1);
        is(x.inCell(0), 0);
        is(x.inCell(7), 1);
    }

    @Says("each empty or with one brother")
    static void aCellHasOneBrotherAtMost() {
        PittanceHouse x = waiting(9);
        for (int cell = 0; cell < 8; cell++) {
            is(x.inCell(cell), NOTHING);
            is(x.choose(cell), cell);
        }
        for (int cell = 0; cell < 8; cell++) {
            refused(x, x.choose(cell), 5, cell);
            is(x.inCell(cell), cell);
        }
        is(x.account(4), 8);
        is(x.account(3), 1);
    }

    // ---- voices

    @Says("A brother in a cell who is under no ban can give his voice to one who waits")
    static void whoIsInNoCellGivesNoVoice() {
        PittanceHouse x = housed(3, 1);
        refused(x, x.voice(1, 2), 3, 0);
        refused(x, x.voice(1, 1), 3, 0);
        is(x.voices(2), 0);
        is(x.voice(0, 2), 1);
    }

    @Says("A brother in a cell who is under no ban can give his voice to one who waits")
    static void aBanOfOneWeekIsStillABan() {
        PittanceHouse x = housed(2, 1);
        x.breach(0, 0);
        x.breach(0, 0);
        x.weeks(2);
        refused(x, x.voice(0, 1), 4, 1);
        x.weeks(1);
        is(x.voice(0, 1), 2);
    }

    @Says("A brother in a cell who is under no ban can give his voice to one who waits")
    static void whoIsPardonedCanGiveHisVoice() {
        PittanceHouse x = housed(2, 1);
        x.breach(0, 0);
        x.pardon(0);
        is(x.voice(0, 1), 2);
    }

    @Says("can give his voice to one who waits")
    static void noVoiceForOneInACellOrGone() {
        PittanceHouse x = housed(5, 3);
        x.leave(2);
        x.withdraw(3);
        refused(x, x.voice(0, 0), 2, 1);
        refused(x, x.voice(0, 1), 2, 1);
        refused(x, x.voice(0, 2), 2, 3);
        refused(x, x.voice(0, 3), 2, 3);
        is(x.voice(0, 4), 1);
    }

    @Says("in place of an earlier one")
    static void aVoiceIsGivenOnceAlone() {
        PittanceHouse x = housed(4, 1);
        is(x.voice(0, 2), 1);
        is(x.voice(0, 1), 2);
        is(x.voices(2), 0);
        is(x.voice(0, 1), 2);
        is(x.brotherOf(0, 8), 1);
    }

    @Says("A voice is gone when he who gave it is in a cell no longer")
    static void theVoiceOfOneWhoLeavesIsGone() {
        PittanceHouse x = housed(4, 2);
        x.voice(0, 3);
        x.voice(1, 3);
        x.leave(0);
        is(x.voices(3), 2);
        is(x.voicesAgain(3), 2);
        is(x.brotherOf(0, 8), NOTHING);
    }

    @Says("A voice is gone when he who gave it is in a cell no longer")
    static void theVoiceOfOnePutOutIsGone() {
        PittanceHouse x = housed(4, 2);
        x.voice(0, 2);
        x.voice(1, 2);
        putOut(x, 1);
        is(x.voices(2), 1);
        is(x.voicesAgain(2), 1);
        is(x.brotherOf(1, 8), NOTHING);
        is(x.brotherOf(0, 8), 2);
    }

    @Says("or when he to whom it was given waits no longer")
    static void theVoiceForOneWhoIsChosenIsGone() {
        PittanceHouse x = housed(4, 2);
        x.voice(0, 3);
        x.voice(1, 2);
        is(x.choose(2), 3);
        is(x.brotherOf(0, 8), NOTHING);
        is(x.brotherOf(1, 8), 2);
        is(x.voices(3), 0);
        is(x.voicesAgain(3), 0);
    }

    @Says("or when he to whom it was given waits no longer")
    static void theVoiceForOneWhoWithdrawsIsGone() {
        PittanceHouse x = housed(4, 2);
        x.voice(0, 3);
        x.voice(1, 2);
        x.withdraw(3);
        is(x.brotherOf(0, 8), NOTHING);
        is(x.brotherOf(1, 8), 2);
        is(x.voices(3), 0);
        is(x.voicesAgain(3), 0);
    }

    @Says("A voice for kin of the founder counts as 2.")
    static void itIsTheKinOfHimWhoGetsTheVoiceThatCounts() {
        PittanceHouse x = housed(4, 2);
        is(x.voice(1, 2), 1);
        is(x.voice(0, 3), 2);
        is(x.voice(1, 3), 4);
    }

    @Says("it is the one who waits and for whom most voices count")
    static void oneVoiceGoesAheadOfTheLine() {
        PittanceHouse x = housed(6, 3);
        x.voice(0, 4);
        is(x.choose(7), 4);
    }

    @Says("it is the one who waits and for whom most voices count")
    static void threeVoicesGoAheadOfOneForKin() {
        PittanceHouse x = housed(8, 4);
        x.voice(0, 5);
        x.voice(1, 6);
        x.voice(2, 6);
        x.voice(3, 6);
        is(x.choose(7), 6);
        is(x.choose(6), 5);
    }

    @Says("of several the one who is ahead in the line")
    static void twoVoicesAreNoMoreThanOneForKin() {
        PittanceHouse x = housed(9, 4);
        x.voice(0, 6);
        x.voice(1, 6);
        x.voice(2, 5);
        is(x.choose(7), 5);
        is(x.choose(6), 6);
        is(x.choose(5), 4);
    }

    @Says("of several the one who is ahead in the line")
    static void withoutVoicesTheFirstOfTheLineIsChosen() {
        PittanceHouse x = waiting(3);
        x.withdraw(0);
        is(x.choose(4), 1);
        is(x.choose(3), 2);
    }

    @Says("he gets a new gown")
    static void theGownIsNewHoweverLongHeWaited() {
        PittanceHouse x = waiting(2);
        x.weeks(60);
        x.weeks(60);
        x.choose(0);
        is(x.brotherOf(0, 4), 0);
        is(x.brotherOf(1, 4), NOTHING);
        is(x.account(13), 0);
        is(x.account(12), 0);
    }

    // ---- weeks

    @Says("A year has the weeks 0 to 51.")
    static void theYearEndsBehindTheWeek51() {
        PittanceHouse x = new PittanceHouse();
        x.weeks(51);
        is(x.account(1), 51);
        is(x.account(0), 0);
        x.weeks(1);
        is(x.account(1), 0);
        is(x.account(0), 1);
        x.weeks(52);
        is(x.account(1), 0);
        is(x.account(0), 2);
    }

    @Says("A year has the weeks 0 to 51.")
    static void feastsAreInTheWeeks0To51() {
        PittanceHouse x = new PittanceHouse();
        is(x.feast(-1, 1), BAD);
        is(x.feast(52, 1), BAD);
        is(x.feast(0, 1), 1);
        is(x.feast(51, 1), 2);
    }

    @Says("It is the week 0 of the year 0 at first.")
    static void theFirstWeek() {
        PittanceHouse x = new PittanceHouse();
        is(x.account(0), 0);
        is(x.account(1), 0);
    }

    @Says("When a week goes by, the following comes in this order.")
    static void theFeastIsAheadOfTheRents() {
        PittanceHouse x = housed(7, 7);
        x.feast(0, 9);
        x.feast(1, 9);
        x.feast(2, 9);
        is(x.weeks(1), 63);
        is(x.weeks(1), 35);
        is(x.account(9), 6);
        is(x.weeks(1), 0);
        is(x.account(9), 8);
    }

    @Says("When a week goes by, the following comes in this order.")
    static void theFeastIsAheadOfTheGowns() {
        PittanceHouse x = poor(4);
        x.weeks(49);
        x.feast(51, 1);
        is(x.account(9), 8);
        is(x.weeks(1), 8);
        is(x.account(13), 0);
        is(x.brotherOf(0, 4), 2);
    }

    @Says("When a week goes by, the following comes in this order.")
    static void theRentsAreAheadOfTheGowns() {
        PittanceHouse x = poor(2);
        x.weeks(49);
        x.leave(7);
        is(x.account(9), 6);
        x.weeks(1);
        is(x.account(13), 1);
        is(x.account(9), 0);
    }

    @Says("When a week goes by, the following comes in this order.")
    static void theRentsMayBeOnePennyShortOfAGown() {
        PittanceHouse x = poor(1);
        x.weeks(49);
        x.leave(7);
        is(x.account(9), 5);
        x.weeks(1);
        is(x.account(13), 0);
        is(x.account(9), 7);
    }

    @Says("When a week goes by, the following comes in this order.")
    static void theGownsOfANewYearAreAheadOfItsFeast() {
        PittanceHouse x = poor(4);
        x.feast(0, 1);
        is(x.weeks(51), 0);
        is(x.account(13), 1);
        is(x.account(9), 0);
    }

    @Says("First, if it has a feast, each brother in a cell who is under no ban gets its pence out of the chest")
    static void theFeastIsPaidOutOfTheChest() {
        PittanceHouse x = housed(5, 3);
        x.feast(0, 7);
        x.breach(2, 1);
        is(x.weeks(1), 14);
        is(x.brotherOf(0, 6), 7);
        is(x.brotherOf(1, 6), 7);
        is(x.brotherOf(2, 6), 0);
        is(x.brotherOf(3, 6), 0);
        is(x.account(9), 100 - 14 + 10);
    }

    @Says("First, if it has a feast")
    static void aWeekWithoutAFeastPaysNothing() {
        PittanceHouse x = housed(2, 2);
        x.feast(0, 9);
        x.feast(2, 9);
        is(x.weeks(1), 18);
        is(x.weeks(1), 0);
        is(x.weeks(1), 18);
        is(x.weeks(49), 0);
        is(x.weeks(1), 18);
    }

    @Says("if the chest has too little for all of them, each gets what the chest has, divided by how many they are")
    static void justEnoughForAll() {
        PittanceHouse x = housed(8, 8);
        x.feast(0, 9);
        x.feast(1, 9);
        x.weeks(1);
        is(x.gift(44), 72);
        is(x.weeks(1), 72);
        is(x.account(9), 0);
    }

    @Says("if the chest has too little for all of them, each gets what the chest has, divided by how many they are")
    static void onePennyTooLittleForAll() {
        PittanceHouse x = housed(8, 8);
        x.feast(0, 9);
        x.feast(1, 9);
        x.weeks(1);
        is(x.gift(43), 71);
        is(x.weeks(1), 64);
        is(x.brotherOf(0, 6), 17);
        is(x.brotherOf(7, 6), 17);
        is(x.account(9), 7);
    }

    @Says("divided by how many they are")
    static void onlyThoseWhoAreEntitledShareTheChest() {
        PittanceHouse x = poor(3);
        x.feast(2, 9);
        for (int b = 0; b < 6; b++) {
            x.breach(b, 0);
        }
        is(x.weeks(1), 6);
        is(x.brotherOf(7, 6), 12 + 3);
        is(x.brotherOf(0, 6), 12);
        is(x.account(9), 1);
    }

    @Says("Second, each ban lasts a week less.")
    static void eachBanLastsAWeekLess() {
        PittanceHouse x = housed(3, 3);
        x.breach(0, 0);
        x.breach(1, 0);
        x.breach(1, 0);
        x.weeks(1);
        is(x.brotherOf(0, 5), 0);
        is(x.brotherOf(1, 5), 2);
        x.weeks(2);
        is(x.brotherOf(1, 5), 0);
        x.weeks(1);
        is(x.brotherOf(0, 5), 0);
        is(x.brotherOf(2, 5), 0);
    }

    @Says("Third, each empty cell brings 2 pence into the chest.")
    static void rentsOfEightOneAndNoCells() {
        PittanceHouse x = new PittanceHouse();
        x.weeks(1);
        is(x.account(9), 116);
        PittanceHouse y = housed(8, 7);
        y.weeks(1);
        is(y.account(9), 102);
        y.choose(7);
        y.weeks(1);
        is(y.account(9), 102);
    }

    @Says("Third, each empty cell brings 2 pence into the chest.")
    static void aCellThatGetsEmptyBringsRent() {
        PittanceHouse x = housed(8, 8);
        x.leave(3);
        x.weeks(1);
        is(x.account(9), 102);
        putOut(x, 0);
        x.weeks(1);
        is(x.account(9), 106);
        is(x.account(10), 6);
    }

    @Says("Fourth, the next week begins")
    static void theNextWeekBegins() {
        PittanceHouse x = new PittanceHouse();
        x.weeks(1);
        is(x.account(1), 1);
        x.weeks(49);
        is(x.account(1), 50);
    }

    @Says("behind the week 51, a new year begins with the week 0: all brethren who wait or are in cells get a year older")
    static void agesGoUpBehindTheWeek51() {
        PittanceHouse x = housed(5, 3);
        x.leave(1);
        putOut(x, 2);
        x.withdraw(4);
        x.weeks(51);
        is(x.brotherOf(0, 0), 50);
        is(x.brotherOf(3, 0), 53);
        x.weeks(1);
        is(x.brotherOf(0, 0), 51);
        is(x.brotherOf(3, 0), 54);
        is(x.brotherOf(1, 0), 51);
        is(x.brotherOf(2, 0), 52);
        is(x.brotherOf(4, 0), 54);
    }

    @Says("all gowns of brethren in cells get a year older")
    static void aGownOfTheLastWeekGetsAYearOlder() {
        PittanceHouse x = housed(2, 1);
        x.weeks(51);
        x.choose(1);
        is(x.brotherOf(0, 4), 0);
        x.weeks(1);
        is(x.brotherOf(0, 4), 1);
        is(x.brotherOf(1, 4), 1);
    }

    @Says("those whose gowns are 2 years old then")
    static void aGownOfOneYearIsKept() {
        PittanceHouse x = housed(2, 1);
        x.weeks(52);
        x.choose(1);
        is(x.brotherOf(0, 4), 1);
        is(x.account(13), 0);
        x.weeks(52);
        is(x.brotherOf(0, 4), 0);
        is(x.brotherOf(1, 4), 1);
        is(x.account(13), 1);
    }

    @Says("or older, get new ones")
    static void aGownOfThreeYearsIsReplaced() {
        PittanceHouse x = poor(0);
        x.weeks(50);
        is(x.brotherOf(0, 4), 2);
        is(x.account(13), 0);
        x.weeks(2);
        is(x.gift(60), 64);
        x.weeks(50);
        is(x.account(13), 8);
        is(x.account(9), 0);
        is(x.brotherOf(0, 4), 0);
        is(x.brotherOf(7, 4), 0);
    }

    @Says("for 8 pence each out of the chest")
    static void gownsCostEightPenceEach() {
        PittanceHouse x = housed(8, 8);
        x.weeks(60);
        x.weeks(44);
        is(x.account(9), 100 - 64);
        is(x.account(12), 64);
        is(x.account(13), 8);
        is(x.account(11), 0);
    }

    @Says("the oldest gown first")
    static void anOlderGownIsAheadOfHimWhoCameFirst() {
        PittanceHouse x = poor(4);
        x.weeks(50);
        is(x.brotherOf(0, 4), 0);
        x.weeks(54);
        is(x.gift(8), 8);
        is(x.brotherOf(0, 4), 1);
        x.weeks(50);
        is(x.brotherOf(0, 4), 2);
        is(x.brotherOf(1, 4), 0);
        is(x.brotherOf(2, 4), 4);
        is(x.account(13), 2);
    }

    @Says("of several the brother who came into his cell first")
    static void neitherNumbersNorCellsOrderTheGowns() {
        PittanceHouse x = waiting(9);
        x.choose(7);
        x.voice(0, 8);
        x.choose(6);
        for (int cell = 5; cell >= 0; cell--) {
            x.choose(cell);
        }
        x.leave(7);
        x.choose(7);
        x.weeks(52);
        drain(x, 4);
        x.weeks(50);
        is(x.account(13), 1);
        is(x.brotherOf(8, 4), 0);
        is(x.brotherOf(1, 4), 2);
        is(x.brotherOf(7, 4), 2);
    }

    @Says("as long as the chest has so much")
    static void sevenPenceAreTooLittleForAGown() {
        PittanceHouse x = poor(3);
        x.weeks(50);
        is(x.account(13), 0);
        is(x.account(9), 7);
    }

    @Says("as long as the chest has so much")
    static void eightPenceAreEnoughForAGown() {
        PittanceHouse x = poor(4);
        x.weeks(50);
        is(x.account(13), 1);
        is(x.account(9), 0);
        is(x.brotherOf(0, 4), 0);
        is(x.brotherOf(1, 4), 2);
    }

    @Says("as long as the chest has so much")
    static void fifteenPenceAreEnoughForOneAndSixteenForTwo() {
        PittanceHouse x = poor(11);
        x.weeks(50);
        is(x.account(13), 1);
        is(x.account(9), 7);
        PittanceHouse y = poor(12);
        y.weeks(50);
        is(y.account(13), 2);
        is(y.account(9), 0);
        is(y.brotherOf(1, 4), 0);
        is(y.brotherOf(2, 4), 2);
    }

    @Says("No pardon was given in a new year so far.")
    static void pardonsBeginAnewWithTheYear() {
        PittanceHouse x = housed(1, 1);
        x.weeks(51);
        x.breach(0, 0);
        x.pardon(0);
        x.breach(0, 1);
        x.pardon(0);
        x.breach(0, 1);
        refused(x, x.pardon(0), 9, 2);
        x.weeks(1);
        is(x.account(14), 0);
        is(x.pardon(0), 1);
        is(x.account(14), 1);
    }

    // ---- feasts, rules, the chest

    @Says("At most 6 feasts are told")
    static void theSixthFeastIsToldAndTheSeventhIsNot() {
        PittanceHouse x = new PittanceHouse();
        for (int i = 0; i < 5; i++) {
            x.feast(i, 1);
        }
        is(x.feast(51, 1), 6);
        refused(x, x.feast(50, 1), 8, 6);
        is(x.account(8), 6);
    }

    @Says("each in another week")
    static void twoFeastsAreNeverInOneWeek() {
        PittanceHouse x = housed(1, 1);
        is(x.feast(0, 4), 1);
        is(x.feast(0, 4), 1);
        is(x.weeks(1), 4);
        is(x.weeks(51), 0);
    }

    @Says("with 1 to 9 pence")
    static void theLeastAndTheMostOfAFeast() {
        PittanceHouse x = housed(1, 1);
        is(x.feast(0, 0), BAD);
        is(x.feast(0, 10), BAD);
        is(x.feast(0, 1), 1);
        is(x.feast(1, 9), 2);
        is(x.weeks(1), 1);
        is(x.weeks(1), 9);
    }

    @Says("To tell a feast in a week that has one changes its pence.")
    static void theLastOfSixFeastsCanBeChanged() {
        PittanceHouse x = housed(1, 1);
        for (int i = 0; i < 6; i++) {
            x.feast(i, 2);
        }
        is(x.feast(5, 9), 6);
        is(x.feast(0, 1), 6);
        is(x.weeks(6), 1 + 4 * 2 + 9);
    }

    @Says("There are the rules 0 to 4.")
    static void theFirstAndTheLastRule() {
        PittanceHouse x = housed(1, 1);
        is(x.breach(0, -1), NONE);
        is(x.breach(0, 5), NONE);
        is(x.breach(0, 0), 1);
        is(x.breach(0, 4), 2);
        is(x.broke(0, 0), 1);
        is(x.broke(0, 4), 1);
    }

    @Says("his ban lasts as many weeks longer as he broke this rule so far, this time included")
    static void theSecondBreachOfARuleCountsTwice() {
        PittanceHouse x = housed(2, 2);
        is(x.breach(0, 3), 1);
        is(x.breach(0, 3), 3);
        is(x.breach(0, 1), 4);
        is(x.breach(1, 3), 1);
        x.weeks(4);
        is(x.breach(1, 3), 2);
    }

    @Says("with the third breach of one rule he is put out instead, and no ban is left")
    static void theThirdBreachOfOneRule() {
        PittanceHouse x = housed(1, 1);
        x.breach(0, 2);
        x.breach(0, 2);
        is(x.brotherOf(0, 2), 1);
        is(x.breach(0, 2), 0);
        is(x.brotherOf(0, 2), 2);
        is(x.brotherOf(0, 5), 0);
        is(x.inCell(0), NOTHING);
        is(x.account(7), 0);
        is(x.broke(0, 2), 3);
    }

    @Says("with the third breach of one rule he is put out instead")
    static void tenBreachesOfFiveRulesDoNotPutOut() {
        PittanceHouse x = housed(1, 1);
        for (int rule = 0; rule < 5; rule++) {
            is(x.breach(0, rule), 3 * rule + 1);
            is(x.breach(0, rule), 3 * rule + 3);
        }
        is(x.brotherOf(0, 2), 1);
        is(x.brotherOf(0, 7), 10);
        is(x.breach(0, 4), 0);
        is(x.brotherOf(0, 2), 2);
    }

    @Says("with the third breach of one rule he is put out instead")
    static void aPardonDoesNotTakeBreachesAway() {
        PittanceHouse x = housed(1, 1);
        x.breach(0, 2);
        x.pardon(0);
        is(x.breach(0, 2), 2);
        x.pardon(0);
        is(x.breach(0, 2), 0);
        is(x.brotherOf(0, 2), 2);
    }

    @Says("A pardon ends a ban")
    static void aPardonEndsTheWholeBan() {
        PittanceHouse x = housed(1, 1);
        x.breach(0, 0);
        x.breach(0, 0);
        x.breach(0, 1);
        is(x.pardon(0), 4);
        is(x.brotherOf(0, 5), 0);
        is(x.account(7), 0);
        is(x.entitled(), 1);
    }

    @Says("at most 2 are given in a year")
    static void theSecondPardonIsGivenAndTheThirdIsNot() {
        PittanceHouse x = housed(3, 3);
        x.breach(0, 0);
        x.breach(1, 0);
        x.breach(2, 0);
        is(x.pardon(0), 1);
        is(x.pardon(1), 1);
        refused(x, x.pardon(2), 9, 2);
        is(x.brotherOf(2, 5), 1);
        is(x.account(14), 2);
    }

    @Says("There are from 0 to 9999 pence in the chest")
    static void theChestCanGetEmptyAndNoEmptier() {
        PittanceHouse x = poor(4);
        x.feast(2, 1);
        x.feast(3, 9);
        is(x.weeks(1), 8);
        is(x.account(9), 0);
        is(x.weeks(1), 0);
        is(x.account(9), 0);
        is(x.gift(1), 1);
    }

    @Says("There are from 0 to 9999 pence in the chest")
    static void theChestCanGetFull() {
        PittanceHouse x = rich(0, 0, 9998);
        is(x.account(9), 9998);
        is(x.gift(1), 9999);
        is(x.account(10), 9899);
    }

    @Says("100 at first")
    static void theFirstPence() {
        PittanceHouse x = new PittanceHouse();
        is(x.account(9), 100);
        is(x.account(10), 0);
    }

    @Says("what would be more is lost")
    static void aGiftFitsInPart() {
        PittanceHouse x = rich(0, 0, 9998);
        is(x.gift(2), 9999);
        is(x.gift(500), 9999);
        is(x.account(9), 9999);
    }

    @Says("what would be more is lost")
    static void rentsFitInPart() {
        PittanceHouse x = rich(0, 0, 9984);
        x.weeks(1);
        is(x.account(9), 9999);
        is(x.account(10), 9899);
        x.weeks(1);
        is(x.account(9), 9999);
        PittanceHouse y = rich(0, 0, 9983);
        y.weeks(1);
        is(y.account(9), 9999);
        PittanceHouse z = rich(0, 0, 9982);
        z.weeks(1);
        is(z.account(9), 9998);
    }

    @Says("what would be more is lost")
    static void aFeastMakesRoomForTheRents() {
        PittanceHouse x = rich(1, 1, 9999);
        x.feast(0, 9);
        x.weeks(1);
        is(x.account(9), 9999);
        is(x.account(10), 9899 + 9);
        is(x.isBalanced(), 1);
    }

    // ---- texts

    @Says("A text has one or more orders with \";\" between them")
    static void oneOrderAndMore() {
        is(runNew("gift 1"), 1);
        is(runNew("gift 1;gift 1"), 2);
        is(runNew("gift 1;gift 1;gift 1;gift 1;gift 1;gift 1;gift 1;gift 1"), 8);
    }

    @Says("A text has one or more orders with \";\" between them")
    static void noOrderBetweenSignsIsAFault() {
        is(runNew(""), -1000);
        is(runNew(";"), -1000);
        is(runNew(";gift 1"), -1000);
        is(runNew("gift 1;"), -1007);
        is(runNew("gift 1;;gift 1"), -1007);
        is(runNew("gift 1,gift 1"), -1006);
        is(runNew("gift 1; gift 1"), -1007);
        is(runNew("gift 1 ;gift 1"), -1006);
        is(runNew(" gift 1"), -1000);
        is(runNew("gift 1 "), -1006);
    }

    @Says("\"voice \", a brother, a blank, and the one who waits")
    static void anOrderForAVoice() {
        PittanceHouse x = housed(12, 8);
        is(orders(x, "voice 7 11"), 1);
        is(x.brotherOf(7, 8), 11);
        is(orders(x, "voice 0 9"), 1);
        is(x.brotherOf(0, 8), 9);
    }

    @Says("\"choose \" and a cell")
    static void anOrderToChoose() {
        PittanceHouse x = waiting(2);
        is(orders(x, "choose 0;choose 7"), 2);
        is(x.inCell(0), 0);
        is(x.inCell(7), 1);
    }

    @Says("\"leave \" and a cell")
    static void anOrderToLeave() {
        PittanceHouse x = housed(8, 8);
        is(orders(x, "leave 0;leave 7"), 2);
        is(x.brotherOf(0, 2), 3);
        is(x.brotherOf(7, 2), 3);
    }

    @Says("\"breach \", a brother, a blank, and a rule")
    static void anOrderForABreach() {
        PittanceHouse x = housed(2, 2);
        is(orders(x, "breach 1 4;breach 1 4;breach 0 0"), 3);
        is(x.broke(1, 4), 2);
        is(x.broke(0, 0), 1);
        is(x.brotherOf(1, 5), 3);
    }

    @Says("\"pardon \" and a brother")
    static void anOrderToPardon() {
        PittanceHouse x = housed(2, 2);
        x.breach(1, 0);
        is(orders(x, "pardon 1"), 1);
        is(x.brotherOf(1, 5), 0);
        is(x.account(14), 1);
    }

    @Says("\"feast \", a week, a blank, and pence")
    static void anOrderForAFeast() {
        PittanceHouse x = housed(1, 1);
        is(orders(x, "feast 51 9;feast 0 1"), 2);
        is(x.account(8), 2);
        is(x.weeks(1), 1);
        is(x.weeks(51), 9);
    }

    @Says("\"gift \" and pence")
    static void anOrderForAGift() {
        PittanceHouse x = new PittanceHouse();
        is(orders(x, "gift 1;gift 500"), 2);
        is(x.account(9), 601);
    }

    @Says("or \"weeks \" and how many")
    static void anOrderForWeeks() {
        PittanceHouse x = new PittanceHouse();
        is(orders(x, "weeks 1;weeks 60"), 2);
        is(x.account(0), 1);
        is(x.account(1), 9);
    }

    @Says("Cells, rules and the pence of feasts have one digit")
    static void aSecondDigitIsTooMany() {
        is(runNew("choose 00"), -1008);
        is(runNew("leave 07"), -1007);
        is(runNew("breach 0 00"), -1010);
        is(runNew("feast 0 09"), -1009);
        is(runNew("choose "), -1007);
        is(runNew("choose ;"), -1007);
    }

    @Says("Cells, rules and the pence of feasts have one digit")
    static void aDigitThatIsOutOfRangeIsNoFaultOfTheText() {
        PittanceHouse x = housed(2, 1);
        refused(x, orders(x, "choose 8"), 11, 0);
        refused(x, orders(x, "leave 9"), 11, 0);
        refused(x, orders(x, "breach 0 5"), 11, 0);
        refused(x, orders(x, "feast 0 0"), 11, 0);
    }

    @Says("weeks and brethren one or two")
    static void oneAndTwoDigitsButNotThree() {
        PittanceHouse x = housed(12, 2);
        is(orders(x, "voice 1 2;voice 01 02;voice 0 11"), 3);
        is(orders(x, "breach 0 0;breach 01 0;pardon 0;pardon 01"), 4);
        is(orders(x, "feast 9 1;feast 09 1;feast 51 1;weeks 1;weeks 01"), 5);
        is(x.account(8), 2);
        is(x.account(1), 2);
        is(runNew("voice 000 1"), -1008);
        is(runNew("voice 0 001"), -1010);
        is(runNew("breach 000 0"), -1009);
        is(runNew("pardon 000"), -1009);
        is(runNew("feast 000 1"), -1008);
        is(runNew("weeks 001"), -1008);
    }

    @Says("weeks and brethren one or two")
    static void twoDigitsThatAreOutOfRangeAreNoFaultOfTheText() {
        PittanceHouse x = housed(2, 1);
        refused(x, orders(x, "voice 16 1"), 11, 0);
        refused(x, orders(x, "voice 0 99"), 11, 0);
        refused(x, orders(x, "pardon 99"), 11, 0);
        refused(x, orders(x, "feast 52 1"), 11, 0);
        refused(x, orders(x, "weeks 0"), 11, 0);
        refused(x, orders(x, "weeks 61"), 11, 0);
        refused(x, orders(x, "weeks 99"), 11, 0);
    }

    @Says("and the pence of gifts one to three")
    static void oneToThreeDigitsButNotFour() {
        PittanceHouse x = new PittanceHouse();
        is(orders(x, "gift 1;gift 10;gift 100;gift 001"), 4);
        is(x.account(9), 212);
        is(orders(x, "gift 0001"), -1008);
        is(orders(x, "gift 1000"), -1008);
        is(orders(x, "gift "), -1005);
        refused(x, orders(x, "gift 000"), 11, 0);
        refused(x, orders(x, "gift 501"), 11, 0);
        refused(x, orders(x, "gift 999"), 11, 0);
    }

    private static final String[] ORDERS = {"voice 12 13", "choose 7", "leave 7", "breach 12 4", "pardon 12",
        "feast 51 9", "gift 500", "weeks 60"};
    private static final int[] SHORTEST = {10, 8, 7, 11, 8, 10, 6, 7};

    @Says("The fault position of a text is the index of its first character with which no such text can continue")
    static void aWrongCharacterAtEachPlaceOfEachOrder() {
        for (String order : ORDERS) {
            for (int i = 0; i <= order.length(); i++) {
                String behind = i < order.length() ? order.substring(i + 1) : "";
                is(runNew(order.substring(0, i) + "~" + behind), -1000 - i);
            }
        }
    }

    @Says("The fault position of a text is the index of its first character with which no such text can continue")
    static void aWrongCharacterBehindOtherOrders() {
        is(runNew("gift 1;voice 0 x"), -1015);
        is(runNew("weeks 60;gift 500;feast 5 1;pardom 1"), -1033);
        is(runNew("choose 0;choose 1;~"), -1018);
        is(runNew("x gift"), -1000);
    }

    @Says("or its length if it ends too early")
    static void eachOrderThatEndsTooEarly() {
        for (int which = 0; which < ORDERS.length; which++) {
            for (int length = 0; length < SHORTEST[which]; length++) {
                is(runNew(ORDERS[which].substring(0, length)), -1000 - length);
            }
        }
    }

    @Says("or its length if it ends too early")
    static void eachOrderThatIsJustLongEnough() {
        for (int which = 0; which < ORDERS.length; which++) {
            PittanceHouse x = housed(14, 8);
            x.leave(7);
            int answer = orders(x, ORDERS[which].substring(0, SHORTEST[which]));
            is(answer < -1000 ? answer : 0, 0);
        }
    }

    @Says("or its length if it ends too early")
    static void aFullTextThatEndsTooEarly() {
        PittanceHouse x = append(new PittanceHouse(), "gift 1;gift 1;gift 1;gift 1;gift 1;gift 1;gift 1;gift 1;gif");
        is(x.account(15), 59);
        is(x.append('t'), 60);
        is(x.append(' '), FULL);
        is(x.run(), -1060);
    }

    @Says("words are looked at letter by letter")
    static void aDigitInAWordIsAFault() {
        for (String order : ORDERS) {
            for (int i = 0; i <= order.indexOf(' '); i++) {
                is(runNew(order.substring(0, i) + "5"), -1000 - i);
                is(runNew(order.substring(0, i) + "5" + order.substring(i)), -1000 - i);
            }
        }
    }

    @Says("words are looked at letter by letter")
    static void theFaultIsTheFirstLetterThatFitsNoWord() {
        is(runNew("woice 1 2"), -1001);
        is(runNew("creach 0 0"), -1001);
        is(runNew("geast 0 1"), -1001);
        is(runNew("lift 1"), -1001);
        is(runNew("Gift 1"), -1000);
        is(runNew("gIft 1"), -1001);
        is(runNew("weeky 1"), -1004);
        is(runNew("weekss 1"), -1005);
        is(runNew("week 1"), -1004);
        is(runNew("pardons 1"), -1006);
        is(runNew("come 60"), -1001);
    }

    @Says("The orders are carried out one after the other")
    static void anOrderSeesWhatTheOnesAheadOfItDid() {
        PittanceHouse x = waiting(3);
        is(orders(x, "choose 0;voice 0 2;choose 1;leave 0;choose 0"), 5);
        is(x.inCell(1), 2);
        is(x.inCell(0), 1);
        is(x.brotherOf(0, 2), 3);
    }

    @Says("all or none")
    static void theLastOrderThatCannotBeCarriedOutUndoesAll() {
        PittanceHouse x = waiting(3);
        refused(x, orders(x, "choose 0;voice 0 2;gift 5;weeks 9;choose 0"), 11, 4);
        is(x.account(4), 0);
        is(x.account(9), 100);
        is(x.account(1), 0);
        is(x.account(16), 3);
    }

    @Says("all or none")
    static void noOrderAheadOfAFaultIsCarriedOut() {
        PittanceHouse x = waiting(3);
        is(orders(x, "choose 0;gift 5;gift"), -1020);
        is(x.account(4), 0);
        is(x.account(9), 100);
    }

    // ---- reasons

    @Says("Something is refused for the first of the reasons that its method names, in the order in which it names them")
    static void theReasonsOfVoiceInTheirOrder() {
        PittanceHouse x = housed(4, 2);
        x.breach(1, 0);
        refused(x, x.voice(2, 0), 3, 0);
        refused(x, x.voice(1, 0), 4, 1);
        refused(x, x.voice(0, 1), 2, 1);
    }

    @Says("Something is refused for the first of the reasons that its method names, in the order in which it names them")
    static void theReasonsOfChooseInTheirOrder() {
        PittanceHouse x = housed(1, 1);
        refused(x, x.choose(0), 5, 0);
        refused(x, x.choose(1), 6, 1);
    }

    @Says("Something is refused for the first of the reasons that its method names, in the order in which it names them")
    static void theReasonsOfPardonInTheirOrder() {
        PittanceHouse x = housed(3, 2);
        refused(x, x.pardon(2), 3, 0);
        refused(x, x.pardon(0), 10, 0);
        x.breach(0, 0);
        x.pardon(0);
        x.breach(0, 1);
        x.pardon(0);
        x.breach(1, 0);
        refused(x, x.pardon(2), 3, 0);
        refused(x, x.pardon(0), 10, 0);
        refused(x, x.pardon(1), 9, 2);
    }

    @Says("1, 16 brethren came: 16")
    static void reason1() {
        PittanceHouse x = waiting(16);
        refused(x, x.come(90, true), 1, 16);
    }

    @Says("2, the brother does not wait: how he is")
    static void reason2() {
        PittanceHouse x = housed(5, 4);
        x.leave(2);
        putOut(x, 3);
        refused(x, x.withdraw(1), 2, 1);
        refused(x, x.withdraw(2), 2, 3);
        refused(x, x.withdraw(3), 2, 2);
        refused(x, x.voice(0, 1), 2, 1);
        refused(x, x.voice(0, 2), 2, 3);
        refused(x, x.voice(0, 3), 2, 2);
    }

    @Says("3, the brother is in no cell: how he is")
    static void reason3() {
        PittanceHouse x = housed(5, 4);
        x.leave(2);
        putOut(x, 3);
        int[] how = {0, 0, 3, 2, 0};
        for (int b = 2; b < 5; b++) {
            refused(x, x.voice(b, 4), 3, how[b]);
            refused(x, x.breach(b, 0), 3, how[b]);
            refused(x, x.pardon(b), 3, how[b]);
        }
    }

    @Says("4, the brother is under a ban: for how many weeks")
    static void reason4() {
        PittanceHouse x = housed(2, 1);
        x.breach(0, 0);
        refused(x, x.voice(0, 1), 4, 1);
        x.breach(0, 0);
        refused(x, x.voice(0, 1), 4, 3);
        x.weeks(1);
        refused(x, x.voice(0, 1), 4, 2);
    }

    @Says("5, the cell has a brother: the brother")
    static void reason5() {
        PittanceHouse x = waiting(4);
        x.choose(6);
        x.choose(2);
        refused(x, x.choose(2), 5, 1);
        refused(x, x.choose(6), 5, 0);
    }

    @Says("6, nobody waits: the cell")
    static void reason6() {
        PittanceHouse x = new PittanceHouse();
        refused(x, x.choose(7), 6, 7);
        x.come(60, false);
        x.withdraw(0);
        refused(x, x.choose(0), 6, 0);
    }

    @Says("7, the cell is empty: the cell")
    static void reason7() {
        PittanceHouse x = housed(2, 2);
        refused(x, x.leave(7), 7, 7);
        x.leave(0);
        refused(x, x.leave(0), 7, 0);
        putOut(x, 1);
        refused(x, x.leave(1), 7, 1);
    }

    @Says("8, there are 6 feasts: 6")
    static void reason8() {
        PittanceHouse x = new PittanceHouse();
        for (int i = 0; i < 6; i++) {
            is(x.feast(10 * i, 9), i + 1);
        }
        refused(x, x.feast(51, 9), 8, 6);
    }

    @Says("9, 2 pardons were given in the year: 2")
    static void reason9() {
        PittanceHouse x = housed(1, 1);
        x.breach(0, 0);
        x.pardon(0);
        x.breach(0, 1);
        x.pardon(0);
        x.breach(0, 2);
        refused(x, x.pardon(0), 9, 2);
    }

    @Says("10, the brother is under no ban: the brother")
    static void reason10() {
        PittanceHouse x = housed(2, 2);
        refused(x, x.pardon(1), 10, 1);
        x.breach(0, 0);
        x.weeks(1);
        refused(x, x.pardon(0), 10, 0);
    }

    @Says("11, an order cannot be carried out: its number, from 0")
    static void reason11() {
        PittanceHouse x = new PittanceHouse();
        refused(x, orders(x, "gift 0;gift 0"), 11, 0);
        refused(x, orders(x, "gift 1;gift 0"), 11, 1);
        refused(x, orders(x, "gift 1;gift 1;gift 1;gift 1;gift 1;gift 1;gift 1;leave 0"), 11, 7);
    }

    // ---- changes, codes

    @Says("The changes are the successful calls of come, withdraw, voice, choose, leave, feast, breach, pardon, gift, "
        + "weeks and run")
    static void eachOfElevenCallsIsAChange() {
        PittanceHouse x = new PittanceHouse();
        x.come(60, false);
        is(x.account(16), 1);
        x.choose(0);
        is(x.account(16), 2);
        x.come(60, false);
        is(x.account(16), 3);
        x.voice(0, 1);
        is(x.account(16), 4);
        x.withdraw(1);
        is(x.account(16), 5);
        x.feast(0, 9);
        is(x.account(16), 6);
        x.gift(1);
        is(x.account(16), 7);
        x.weeks(1);
        is(x.account(16), 8);
        PittanceHouse y = housed(1, 1);
        y.breach(0, 0);
        is(y.account(16), 3);
        y.pardon(0);
        is(y.account(16), 4);
        y.leave(0);
        is(y.account(16), 5);
        orders(y, "gift 1;gift 1;gift 1");
        is(y.account(16), 6);
    }

    @Says("The changes are the successful calls")
    static void whatIsRefusedIsNoChange() {
        PittanceHouse x = housed(1, 1);
        x.come(91, false);
        x.withdraw(0);
        x.voice(0, 0);
        x.choose(0);
        x.leave(1);
        x.feast(0, 0);
        x.breach(0, 5);
        x.pardon(0);
        x.gift(501);
        x.weeks(61);
        orders(x, "gift 0");
        orders(x, "gift");
        is(x.account(16), 2);
        is(x.undo(), 1);
        is(x.inCell(0), NOTHING);
    }

    @Says("The changes are the successful calls")
    static void whatOnlyAsksIsNoChange() {
        PittanceHouse x = housed(1, 1);
        x.save();
        x.wouldGet(0, 60);
        x.chestIn(60);
        x.append('g');
        x.tell();
        x.tellWaiting();
        is(x.account(16), 2);
    }

    @Says("also those by which nothing is different")
    static void changesByWhichNothingIsDifferent() {
        PittanceHouse x = housed(2, 1);
        x.voice(0, 1);
        is(x.voice(0, 1), 2);
        is(x.account(16), 5);
        is(x.undo(), 4);
        is(x.voices(1), 2);
        x.feast(3, 3);
        x.feast(3, 3);
        is(x.account(16), 6);
        is(x.undo(), 5);
        is(x.account(8), 1);
    }

    @Says("also those by which nothing is different")
    static void aGiftIntoAFullChestIsAChange() {
        PittanceHouse x = new PittanceHouse();
        for (int i = 0; i < 19; i++) {
            x.gift(500);
        }
        x.gift(399);
        is(x.undo(), 7);
        is(x.gift(500), 9999);
        is(x.account(16), 8);
        x.undo();
        is(x.account(9), 9600);
        x.gift(399);
        x.gift(1);
        is(x.undo(), 7);
        is(x.account(9), 9999);
    }

    @Says("The latest 8 can be undone.")
    static void eightChangesAndNine() {
        PittanceHouse x = waiting(8);
        for (int left = 7; left >= 0; left--) {
            is(x.undo(), left);
            is(x.account(2), left);
        }
        is(x.undo(), NOTHING);
        PittanceHouse y = waiting(9);
        for (int left = 7; left >= 0; left--) {
            is(y.undo(), left);
        }
        is(y.undo(), NOTHING);
        is(y.account(2), 1);
    }

    @Says("The latest 8 can be undone.")
    static void theOldestChangesAreForgottenAgainAndAgain() {
        PittanceHouse x = new PittanceHouse();
        for (int i = 0; i < 20; i++) {
            x.gift(1);
        }
        x.undo();
        x.undo();
        is(x.undo(), 5);
        for (int i = 0; i < 5; i++) {
            x.gift(10);
        }
        is(x.account(16), 8);
        int[] chests = {157, 147, 137, 127, 117, 116, 115, 114};
        for (int i = 1; i < 8; i++) {
            is(x.undo(), 8 - i);
            is(x.account(9), chests[i - 1]);
        }
        is(x.undo(), 0);
        is(x.account(9), 114);
        is(x.undo(), NOTHING);
        is(x.gift(1), 115);
        is(x.undo(), 0);
    }

    /** Ten brethren, how each of them can be, and a text, a line, a snapshot and changes. */
    private static PittanceHouse busy() {
        PittanceHouse x = housed(10, 6);
        for (int i = 0; i < 6; i++) {
            x.feast(9 * i, 1 + i);
        }
        x.weeks(60);
        x.leave(5);
        x.withdraw(9);
        putOut(x, 4);
        x.voice(0, 8);
        x.voice(1, 7);
        x.breach(2, 0);
        x.pardon(2);
        x.breach(2, 1);
        x.pardon(2);
        x.breach(2, 1);
        x.save();
        x.breach(3, 1);
        x.gift(77);
        x.tellWaiting();
        return append(x, "gift");
    }

    private static PittanceHouse nobodyWaits() {
        return housed(3, 3);
    }

    private static PittanceHouse full() {
        return rich(16, 2, 100);
    }

    @Says("A call that returns a code leaves everything unchanged")
    static void comeLeavesAllUnchanged() {
        unchanged(TermsTest::busy, x -> x.come(49, true), BAD);
        unchanged(TermsTest::busy, x -> x.come(91, true), BAD);
        unchanged(TermsTest::full, x -> x.come(60, true), REFUSED);
    }

    @Says("A call that returns a code leaves everything unchanged")
    static void withdrawLeavesAllUnchanged() {
        unchanged(TermsTest::busy, x -> x.withdraw(10), NONE);
        unchanged(TermsTest::busy, x -> x.withdraw(0), REFUSED);
        unchanged(TermsTest::busy, x -> x.withdraw(4), REFUSED);
        unchanged(TermsTest::busy, x -> x.withdraw(9), REFUSED);
    }

    @Says("A call that returns a code leaves everything unchanged")
    static void voiceLeavesAllUnchanged() {
        unchanged(TermsTest::busy, x -> x.voice(10, 6), NONE);
        unchanged(TermsTest::busy, x -> x.voice(0, 10), NONE);
        unchanged(TermsTest::busy, x -> x.voice(6, 7), REFUSED);
        unchanged(TermsTest::busy, x -> x.voice(2, 6), REFUSED);
        unchanged(TermsTest::busy, x -> x.voice(0, 1), REFUSED);
        unchanged(TermsTest::busy, x -> x.voice(0, 9), REFUSED);
    }

    @Says("A call that returns a code leaves everything unchanged")
    static void chooseAndLeaveLeaveAllUnchanged() {
        unchanged(TermsTest::busy, x -> x.choose(8), NONE);
        unchanged(TermsTest::busy, x -> x.choose(0), REFUSED);
        unchanged(TermsTest::nobodyWaits, x -> x.choose(3), REFUSED);
        unchanged(TermsTest::busy, x -> x.leave(-1), NONE);
        unchanged(TermsTest::busy, x -> x.leave(5), REFUSED);
    }

    @Says("A call that returns a code leaves everything unchanged")
    static void feastLeavesAllUnchanged() {
        unchanged(TermsTest::busy, x -> x.feast(52, 1), BAD);
        unchanged(TermsTest::busy, x -> x.feast(0, 10), BAD);
        unchanged(TermsTest::busy, x -> x.feast(0, 0), BAD);
        unchanged(TermsTest::busy, x -> x.feast(1, 1), REFUSED);
    }

    @Says("A call that returns a code leaves everything unchanged")
    static void breachAndPardonLeaveAllUnchanged() {
        unchanged(TermsTest::busy, x -> x.breach(10, 0), NONE);
        unchanged(TermsTest::busy, x -> x.breach(0, 5), NONE);
        unchanged(TermsTest::busy, x -> x.breach(6, 0), REFUSED);
        unchanged(TermsTest::busy, x -> x.breach(4, 4), REFUSED);
        unchanged(TermsTest::busy, x -> x.pardon(10), NONE);
        unchanged(TermsTest::busy, x -> x.pardon(6), REFUSED);
        unchanged(TermsTest::busy, x -> x.pardon(0), REFUSED);
        unchanged(TermsTest::busy, x -> x.pardon(3), REFUSED);
    }

    @Says("A call that returns a code leaves everything unchanged")
    static void giftAndWeeksLeaveAllUnchanged() {
        unchanged(TermsTest::busy, x -> x.gift(0), BAD);
        unchanged(TermsTest::busy, x -> x.gift(501), BAD);
        unchanged(TermsTest::busy, x -> x.weeks(0), BAD);
        unchanged(TermsTest::busy, x -> x.weeks(61), BAD);
    }

    @Says("A call that returns a code leaves everything unchanged")
    static void whatAsksLeavesAllUnchanged() {
        unchanged(TermsTest::busy, x -> x.wouldGet(0, 61), BAD);
        unchanged(TermsTest::busy, x -> x.wouldGet(10, 60), NONE);
        unchanged(TermsTest::busy, x -> x.chestIn(61), BAD);
        unchanged(TermsTest::busy, x -> x.append(31), BAD);
        unchanged(TermsTest::busy, x -> x.brotherOf(0, 10), BAD);
        unchanged(TermsTest::busy, x -> x.ranked(16), NONE);
        unchanged(TermsTest::busy, x -> x.character(99), NONE);
        unchanged(TermsTest::busy, x -> x.account(17), BAD);
        unchanged(PittanceHouse::new, x -> x.undo(), NOTHING);
        unchanged(PittanceHouse::new, x -> x.restore(), NOTHING);
        unchanged(TermsTest::nobodyWaits, x -> x.restore(), NOTHING);
    }

    @Says("A call that returns a code leaves everything unchanged")
    static void aFullTextIsLeftUnchanged() {
        PittanceHouse x = append(new PittanceHouse(), "gift 1;gift 1;gift 1;gift 1;gift 1;gift 1;gift 1;gift 500;gift"
            .substring(0, 60));
        is(x.append('1'), FULL);
        is(x.append('~'), FULL);
        is(x.account(15), 60);
        is(x.run(), -1060);
    }

    private static int emptied(PittanceHouse x, String text) {
        int answer = orders(x, text);
        append(x, "gift");
        return answer;
    }

    private static int runAll(PittanceHouse x, String text) {
        x.run();
        return emptied(x, text);
    }

    @Says("except that run empties the text, and that reasons are kept")
    static void runLeavesAllButTheTextUnchanged() {
        unchanged(TermsTest::busy, x -> runAll(x, "weeks 60;choose 7;leave 0;gift 9;breach 0 1;leave 0"), REFUSED);
        unchanged(TermsTest::busy, x -> runAll(x, "weeks 60;choose 7;leave 0;gift 9;breach 0 1;leave"), -1049);
        unchanged(TermsTest::busy, x -> runAll(x, ""), -1000);
    }

    @Says("except that run empties the text")
    static void runEmptiesTheTextWhateverItAnswers() {
        PittanceHouse x = append(new PittanceHouse(), "gift 1");
        is(x.run(), 1);
        is(x.account(15), 0);
        append(x, "gift 0");
        is(x.run(), REFUSED);
        is(x.account(15), 0);
        append(x, "gift");
        is(x.run(), -1004);
        is(x.account(15), 0);
        is(x.run(), -1000);
        is(x.append('g'), 1);
    }

    @Says("and that reasons are kept")
    static void otherCodesAndSuccessKeepTheReason() {
        PittanceHouse x = waiting(1);
        refused(x, x.leave(3), 7, 3);
        x.come(91, false);
        x.choose(8);
        x.append(31);
        x.account(17);
        orders(x, "gift");
        is(x.reason(false), 7);
        is(x.reason(true), 3);
        x.choose(3);
        x.leave(3);
        is(x.reason(false), 7);
        is(x.reason(true), 3);
        refused(x, x.leave(3), 7, 3);
        refused(x, x.choose(4), 6, 4);
    }

    @Says("If several codes apply, the one that is listed first is returned.")
    static void badAndNoneAreAheadOfRefused() {
        PittanceHouse x = housed(16, 1);
        is(x.come(91, false), BAD);
        is(x.voice(1, 16), NONE);
        is(x.voice(16, 0), NONE);
        is(x.breach(1, 5), NONE);
        for (int i = 0; i < 6; i++) {
            x.feast(i, 1);
        }
        is(x.feast(6, 0), BAD);
        is(x.feast(52, 1), BAD);
        is(x.reason(false), NOTHING);
    }

    @Says("If several codes apply, the one that is listed first is returned.")
    static void noneIsAheadOfBadAndBadOfFull() {
        PittanceHouse x = housed(1, 1);
        is(x.brotherOf(1, 10), NONE);
        is(x.brotherOf(-1, -1), NONE);
        is(x.wouldGet(1, 61), NONE);
        is(x.wouldGet(-1, -1), NONE);
        for (int i = 0; i < 60; i++) {
            x.append('g');
        }
        is(x.append(127), BAD);
        is(x.append(31), BAD);
        is(x.append('g'), FULL);
    }

    @Says("If several codes apply, the one that is listed first is returned.")
    static void aFaultOfTheTextIsAheadOfRefused() {
        PittanceHouse x = new PittanceHouse();
        is(orders(x, "gift 0;leave 0;x"), -1015);
        is(x.reason(false), NOTHING);
    }

    @Says("The text, the line, the reason and its detail are neither undone nor saved, and stay.")
    static void undoLeavesTextLineAndReason() {
        PittanceHouse x = waiting(1);
        x.choose(2);
        x.tell();
        x.choose(2);
        append(x, "gift 1");
        x.undo();
        is(x.inCell(2), NOTHING);
        isText(lineOf(x), "- - 0 - - - - -");
        is(x.reason(false), 5);
        is(x.reason(true), 0);
        is(x.account(15), 6);
        is(x.run(), 1);
        is(x.undo(), 1);
        is(x.account(15), 0);
    }

    @Says("The text, the line, the reason and its detail are neither undone nor saved, and stay.")
    static void restoreLeavesTextLineAndReason() {
        PittanceHouse x = waiting(1);
        x.save();
        x.choose(2);
        x.tell();
        x.choose(2);
        append(x, "gift 1");
        x.restore();
        is(x.inCell(2), NOTHING);
        isText(lineOf(x), "- - 0 - - - - -");
        is(x.reason(false), 5);
        is(x.reason(true), 0);
        is(x.account(15), 6);
        is(x.run(), 1);
        x.restore();
        is(x.account(15), 0);
        isText(lineOf(x), "- - 0 - - - - -");
    }

    // ---- in doubt

    @Says("A gown is 0 years old when it is new.")
    static void newGownsAre0YearsOld() {
        PittanceHouse x = housed(2, 1);
        is(x.brotherOf(0, 4), 0);
        x.weeks(52);
        x.weeks(52);
        is(x.account(13), 1);
        is(x.brotherOf(0, 4), 0);
        x.choose(1);
        is(x.brotherOf(1, 4), 0);
    }

    @Says("Who was put out or has left does not come again")
    static void whoIsGoneStaysGone() {
        PittanceHouse x = housed(3, 2);
        x.leave(0);
        putOut(x, 1);
        x.withdraw(2);
        refused(x, x.choose(0), 6, 0);
        x.weeks(60);
        is(x.brotherOf(0, 2), 3);
        is(x.brotherOf(1, 2), 2);
        is(x.brotherOf(2, 2), 3);
        is(x.come(60, false), 3);
        is(x.choose(0), 3);
    }

    @Says("and is under no ban any more")
    static void whoIsGoneIsUnderNoBan() {
        PittanceHouse x = housed(2, 2);
        x.breach(0, 0);
        x.breach(0, 0);
        x.breach(1, 0);
        is(x.account(7), 2);
        x.leave(0);
        is(x.brotherOf(0, 5), 0);
        is(x.account(7), 1);
        putOut(x, 1);
        is(x.brotherOf(1, 5), 0);
        is(x.account(7), 0);
    }

    @Says("A voice of a brother stays if he comes under a ban.")
    static void aVoiceGivenAheadOfABanCounts() {
        PittanceHouse x = housed(4, 2);
        x.voice(0, 3);
        x.breach(0, 0);
        is(x.voices(3), 2);
        is(x.voicesAgain(3), 2);
        is(x.brotherOf(0, 8), 3);
        is(x.choose(2), 3);
    }

    @Says("A brother who waits and one to whom he gives a voice can be kin alike.")
    static void kinGivesAVoiceToKin() {
        PittanceHouse x = housed(4, 2);
        is(x.voice(1, 3), 2);
        is(x.voicesAgain(3), 2);
    }

    @Says("With none entitled, a feast pays nothing.")
    static void aFeastWithNobodyInACell() {
        PittanceHouse x = waiting(2);
        x.feast(0, 9);
        is(x.weeks(1), 0);
        is(x.account(9), 116);
        is(x.account(11), 0);
        is(x.brotherOf(0, 6), 0);
    }

    @Says("With none entitled, a feast pays nothing.")
    static void aFeastWithAllUnderBans() {
        PittanceHouse x = housed(2, 2);
        x.feast(0, 9);
        x.breach(0, 0);
        x.breach(1, 0);
        is(x.weeks(1), 0);
        is(x.account(9), 112);
        is(x.account(11), 0);
    }

    @Says("What each gets of a chest that is too small can be 0")
    static void sevenPenceForEight() {
        PittanceHouse x = poor(3);
        x.feast(2, 1);
        is(x.weeks(1), 0);
        is(x.account(9), 7);
        is(x.brotherOf(0, 6), 12);
        is(x.gift(1), 8);
        x.feast(3, 1);
        is(x.weeks(1), 8);
    }

    @Says("what is left by the division stays in the chest")
    static void theRestOfFifteenForEight() {
        PittanceHouse x = poor(11);
        x.feast(2, 9);
        is(x.weeks(1), 8);
        is(x.account(9), 7);
        is(x.isBalanced(), 1);
    }

    @Says("A ban of the week that goes by counts for its feast, and is a week less behind it.")
    static void aBanOfOneWeekCostsOneFeast() {
        PittanceHouse x = housed(1, 1);
        x.feast(0, 9);
        x.feast(1, 9);
        x.breach(0, 0);
        is(x.weeks(1), 0);
        is(x.brotherOf(0, 5), 0);
        is(x.weeks(1), 9);
    }

    @Says("Pence that are lost, as the chest is full, did not come.")
    static void lostPenceAreInNoAccount() {
        PittanceHouse x = rich(0, 0, 9998);
        x.gift(500);
        is(x.account(10), 9899);
        x.gift(500);
        x.weeks(60);
        is(x.account(10), 9899);
        is(x.isBalanced(), 1);
    }

    @Says("A brother who is older than 90 lives on.")
    static void olderThan90() {
        PittanceHouse x = new PittanceHouse();
        x.come(90, false);
        x.come(90, false);
        x.choose(0);
        x.weeks(52);
        is(x.brotherOf(0, 0), 91);
        is(x.brotherOf(1, 0), 91);
        is(x.meanAge(), 91.0);
        is(x.choose(1), 1);
        x.weeks(60);
        x.weeks(44);
        is(x.brotherOf(0, 0), 93);
        is(x.brotherOf(0, 2), 1);
    }

    @Says("The week with which only weeks go by is the present one.")
    static void thePresentWeekIsTheFirstToGoBy() {
        PittanceHouse x = housed(1, 1);
        x.feast(0, 9);
        is(x.wouldGet(0, 0), 0);
        is(x.wouldGet(0, 1), 9);
        is(x.chestIn(0), 100);
        is(x.chestIn(1), 105);
        x.weeks(1);
        is(x.wouldGet(0, 1), 0);
        is(x.wouldGet(0, 51), 0);
        is(x.wouldGet(0, 52), 9);
    }

    public static void main(String[] args) throws Exception {
        Sentences.test(TermsTest.class, 0, 0);
    }
}
