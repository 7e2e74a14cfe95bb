/** The boundary cases that the section 'Terms' names, one test for each of its sentences, in its order. */
public final class TermsTest {
    public static void main(String[] args) {
        aLifeIsOlderByWholeYears();
        theLeastAgeCounts();
        theShareIsAtMost55();
        theShareAgesToo();
        theGreatestLoanIsRoundedDown();
        theGreatestLoanStaysUntilAMove();
        theFirstDrawingMakesTheRoomLess();
        aMoveSetsTheRoomAnew();
        whatIsPaidBackMakesNoRoom();
        theRateIsAtFirst500();
        theRateOfADrawingStays();
        interestIsRoundedDown();
        interestIsAddedEachDay();
        noDayIsNoInterest();
        theGreatestInterest();
        eachDrawingFromItsOwnDay();
        theDebtIsRoundedUp();
        owedIsAtMostTheWorth();
        paidBackInOrder();
        asMuchAsThereIs();
        theYearOfTheLoan();
        theTenthIsRoundedDown();
        theTenthOfAllThatWasDrawn();
        aPaymentOfTheYearCounts();
        whatWasChargedCounts();
        aWaivedPaymentCounts();
        aMoveIsLeftAside();
        thePercentIsAtLeast0();
        theChargeIsRoundedDown();
        waivedFor1095Days();
        waivedAfterADeathAlone();
        theLoanEndsWithTheLastLife();
        aMoveToALoanAsGreatAsTheDebt();
        aMoveThatLeavesNothing();
        Checks.finish("TermsTest");
    }

    private static EquityRelease interestFree(int worth, int first, int second, int amount) {
        EquityRelease desk = new EquityRelease();
        desk.setRate(0);
        desk.begin(worth, first, second, amount);
        return desk;
    }

    private static void passYears(EquityRelease desk, int years) {
        for (int i = 0; i < years; i++) {
            desk.pass(365);
        }
    }

    // ---- lives and ages

    private static void aLifeIsOlderByWholeYears() {
        EquityRelease desk = new EquityRelease();
        desk.pass(100);
        desk.begin(100000, 60, 0, 0);
        Checks.due("12 on day 100", desk.age(), 60);
        desk.pass(264);
        Checks.due("12 on day 364", desk.age(), 60);
        desk.pass(1);
        Checks.due("12 on day 365, whenever it was begun", desk.age(), 61);
        desk.pass(364);
        Checks.due("12 on day 729", desk.age(), 61);
        desk.pass(1);
        Checks.due("12 on day 730", desk.age(), 62);
        EquityRelease old = new EquityRelease();
        old.begin(100000, 95, 0, 0);
        passYears(old, 41);
        Checks.due("12 on day 14965", old.age(), 136);
        old.pass(35);
        Checks.due("12 on day 15000", old.age(), 136);
    }

    private static void theLeastAgeCounts() {
        EquityRelease desk = new EquityRelease();
        desk.begin(100000, 72, 71, 0);
        Checks.due("12 the second life's", desk.age(), 71);
        desk.end(1);
        Checks.due("12 of those that have not ended", desk.age(), 72);
        desk.end(0);
        Checks.due("12 of none", desk.age(), -1);
        EquityRelease alike = new EquityRelease();
        alike.begin(100000, 55, 55, 0);
        Checks.due("12 of both", alike.age(), 55);
        alike.end(0);
        Checks.due("12 of the second", alike.age(), 55);
        EquityRelease elder = new EquityRelease();
        elder.begin(100000, 71, 72, 0);
        Checks.due("12 the first life's", elder.age(), 71);
        elder.end(1);
        Checks.due("12 the elder's end changes nothing", elder.age(), 71);
    }

    private static void theShareIsAtMost55() {
        for (int age = 55; age <= 90; age++) {
            Checks.due("2 the share at " + age, interestFree(1000, age, 0, 0).room(), (age - 35) * 10);
        }
        for (int age = 91; age <= 95; age++) {
            Checks.due("2 the share at " + age, interestFree(1000, age, 0, 0).room(), 550);
        }
    }

    private static void theShareAgesToo() {
        EquityRelease desk = new EquityRelease();
        desk.begin(100000, 89, 0, 0);
        desk.pass(364);
        desk.move(100000);
        Checks.due("9 the share at 89", desk.room(), 54000);
        desk.pass(1);
        desk.move(100000);
        Checks.due("9 the share at 90", desk.room(), 55000);
        desk.pass(365);
        desk.move(100000);
        Checks.due("9 the share at 91", desk.room(), 55000);
        EquityRelease last = new EquityRelease();
        passYears(last, 41);
        Checks.due("2 the share at 136", last.begin(10000000, 95, 0, 0), 5500000);
    }

    // ---- the greatest loan and the room

    private static void theGreatestLoanIsRoundedDown() {
        Checks.due("2 210.00", interestFree(1000, 56, 0, 0).room(), 210);
        Checks.due("2 210.84", interestFree(1004, 56, 0, 0).room(), 210);
        Checks.due("2 211.05", interestFree(1005, 56, 0, 0).room(), 211);
        Checks.due("2 5499999.45", interestFree(9999999, 95, 0, 0).room(), 5499999);
        EquityRelease desk = interestFree(1000, 60, 0, 0);
        desk.move(3);
        Checks.due("9 0.75", desk.room(), 0);
        desk.move(4);
        Checks.due("9 1.00", desk.room(), 1);
        desk.move(7);
        Checks.due("9 1.75", desk.room(), 1);
    }

    private static void theGreatestLoanStaysUntilAMove() {
        EquityRelease desk = interestFree(100000, 60, 80, 10000);
        desk.pass(3650);
        Checks.due("14 whatever the age", desk.room(), 15000);
        desk.end(0);
        Checks.due("14 whoever has ended", desk.room(), 15000);
        desk.value(10000000);
        Checks.due("14 whatever the worth", desk.room(), 15000);
        Checks.due("4 whatever the worth", desk.draw(1), 14999);
        desk.move(100000);
        Checks.due("14 by the age 90 from the move on", desk.room(), 44999);
        desk.value(0);
        Checks.due("14 whatever the worth", desk.room(), 44999);
        Checks.due("4 all of it", desk.draw(44999), 0);
    }

    private static void theFirstDrawingMakesTheRoomLess() {
        Checks.due("14 none", interestFree(1000, 55, 0, 0).room(), 200);
        Checks.due("14 all but 1", interestFree(1000, 55, 0, 199).room(), 1);
        Checks.due("14 all", interestFree(1000, 55, 0, 200).room(), 0);
    }

    private static void aMoveSetsTheRoomAnew() {
        EquityRelease desk = interestFree(100000, 60, 0, 20000);
        desk.pay(19000);
        Checks.due("14 ahead of the move", desk.room(), 5000);
        desk.move(100000);
        Checks.due("14 less the debt, not what was drawn", desk.room(), 24000);
        desk.draw(24000);
        Checks.due("14 less what was drawn since", desk.room(), 0);
        EquityRelease rolled = new EquityRelease();
        rolled.begin(1000, 90, 0, 100);
        rolled.pass(1);
        rolled.move(1000);
        Checks.due("14 less the debt, rounded up to 101", rolled.room(), 449);
    }

    private static void whatIsPaidBackMakesNoRoom() {
        EquityRelease desk = interestFree(1000, 55, 0, 200);
        desk.pay(200);
        Checks.due("14 paid back", desk.room(), 0);
        Checks.throwsState("4 paid back", () -> desk.draw(1));
        Checks.due("17 paid back", desk.debt(), 0);
    }

    // ---- rates and interest

    private static void theRateIsAtFirst500() {
        EquityRelease desk = new EquityRelease();
        desk.begin(10000000, 90, 0, 3650000);
        desk.pass(1);
        Checks.due("17 5 percent of 3650000 for a day", desk.debt(), 3650500);
        Checks.due("3 the rate at first", desk.setRate(0), 500);
    }

    private static void theRateOfADrawingStays() {
        EquityRelease desk = new EquityRelease();
        desk.setRate(100);
        desk.begin(10000000, 90, 0, 365000);
        desk.setRate(2000);
        desk.draw(365000);
        desk.setRate(300);
        desk.draw(365000);
        desk.setRate(0);
        desk.draw(365000);
        desk.setRate(700);
        desk.pass(1);
        Checks.due("16 at 100", desk.balance(0), 365010);
        Checks.due("16 at 2000", desk.balance(1), 365200);
        Checks.due("16 at 300", desk.balance(2), 365030);
        Checks.due("16 at 0", desk.balance(3), 365000);
        Checks.due("18 by these rates", desk.debtAnew(), 1460240);
    }

    private static void interestIsRoundedDown() {
        EquityRelease below = interestFree(1000, 90, 0, 0);
        below.setRate(364);
        below.draw(1);
        for (int i = 0; i < 4; i++) {
            below.pass(3650);
        }
        below.pass(400);
        Checks.due("17 0.9973 a day is nothing", below.debt(), 1);
        Checks.due("18 0.9973 a day is nothing", below.debtAnew(), 1);
        EquityRelease just = interestFree(1000, 90, 0, 0);
        just.setRate(365);
        just.draw(1);
        just.pass(1);
        Checks.due("17 1.0000 a day is something", just.debt(), 2);
        Checks.due("18 1.0000 a day is something", just.debtAnew(), 2);
        // Rounded to the nearest it would be 9 on the day 244 already.
        EquityRelease daily = interestFree(1000, 90, 0, 0);
        daily.setRate(1999);
        daily.draw(7);
        daily.pass(246);
        Checks.due("17 246 roundings", daily.debt(), 8);
        daily.pass(1);
        Checks.due("17 247 roundings", daily.debt(), 9);
        Checks.due("18 247 roundings", daily.debtAnew(), 9);
    }

    private static void interestIsAddedEachDay() {
        EquityRelease at1 = new EquityRelease();
        EquityRelease by1 = new EquityRelease();
        at1.setRate(2000);
        by1.setRate(2000);
        at1.begin(100000, 90, 0, 10000);
        by1.begin(100000, 90, 0, 10000);
        at1.pass(365);
        for (int i = 0; i < 365; i++) {
            by1.pass(1);
        }
        Checks.due("6 interest on interest", at1.debt(), 12214);
        Checks.due("6 at once or day by day", by1.debt(), 12214);
        Checks.due("18 at once or day by day", by1.debtAnew(), 12214);
    }

    private static void noDayIsNoInterest() {
        EquityRelease desk = new EquityRelease();
        desk.pass(1000);
        desk.setRate(2000);
        desk.begin(100000, 90, 0, 10000);
        Checks.due("17 on the day of the drawing", desk.debt(), 10000);
        desk.draw(5000);
        Checks.due("17 on the day of both", desk.debt(), 15000);
        desk.pay(15000);
        Checks.due("17 paid back on that day", desk.debt(), 0);
        desk.pass(3650);
        Checks.due("17 of nothing", desk.debt(), 0);
        Checks.due("18 of nothing", desk.debtAnew(), 0);
        Checks.due("16 of nothing", desk.balance(1), 0);
    }

    /** 20 drawings of 5500000 each, the first ones rolled up at 20 percent as long as can be. */
    private static void theGreatestInterest() {
        EquityRelease desk = new EquityRelease();
        Model model = new Model();
        desk.setRate(2000);
        model.setRate(2000);
        desk.begin(10000000, 95, 95, 5500000);
        model.begin(10000000, 95, 95, 5500000);
        for (int i = 0; i < 19; i++) {
            desk.pay(5500000);
            model.pay(5500000);
            desk.move(10000000);
            model.move(10000000);
            desk.draw(5500000);
            model.draw(5500000);
        }
        for (int days : new int[] {3650, 3650, 3650, 3650, 400}) {
            desk.pass(days);
            model.pass(days);
        }
        Checks.due("15 twenty", desk.drawings(), 20);
        Checks.due("17 the greatest debt is no int", desk.debt() > Integer.MAX_VALUE, true);
        Checks.due("17 the greatest debt", desk.debt(), model.debt());
        Checks.due("18 the greatest debt", desk.debtAnew(), model.debt());
        Checks.due("19 the greatest debt", desk.owed(), 10000000);
        Checks.due("20 the greatest debt", desk.spared(), model.debt() - 10000000);
        Checks.due("21 the tenth of 110000000", desk.allowance(), 11000000);
        Checks.due("9 the greatest debt", desk.move(0), model.debt());
        Checks.due("17 paid back", desk.debt(), 0);
        Checks.due("18 paid back", desk.debtAnew(), 0);
    }

    private static void eachDrawingFromItsOwnDay() {
        EquityRelease desk = new EquityRelease();
        desk.setRate(2000);
        desk.begin(100000, 90, 0, 10000);
        desk.pass(100);
        desk.pay(4000);
        desk.pass(265);
        // By its own day: ahead of the payment, on the day of one, and after it.
        desk.draw(10000);
        Checks.due("17 on the day of the second", desk.debt(), 17589);
        Checks.due("18 on the day of the second", desk.debtAnew(), 17589);
        desk.pay(1000);
        desk.pass(365);
        Checks.due("16 rolled up for two years", desk.balance(0), 8047);
        Checks.due("16 rolled up for one", desk.balance(1), 12214);
        Checks.due("17 both", desk.debt(), 20260);
        Checks.due("18 both", desk.debtAnew(), 20260);
        desk.pay(20260);
        desk.pass(365);
        Checks.due("18 all is paid back", desk.debtAnew(), 0);
    }

    // ---- the debt and what is owed

    private static void theDebtIsRoundedUp() {
        EquityRelease desk = new EquityRelease();
        desk.setRate(365);
        desk.begin(100000, 60, 0, 10000);
        desk.pass(1);
        Checks.due("17 10001.0000", desk.debt(), 10001);
        Checks.due("16 10001.0000", desk.balance(0), 10001);
        Checks.due("18 10001.0000", desk.debtAnew(), 10001);
        desk.pass(1);
        Checks.due("17 10002.0001", desk.debt(), 10003);
        Checks.due("16 10002.0001", desk.balance(0), 10003);
        Checks.due("18 10002.0001", desk.debtAnew(), 10003);
        EquityRelease three = new EquityRelease();
        three.setRate(365);
        three.begin(100000, 60, 0, 1);
        three.draw(1);
        three.draw(1);
        three.pass(1);
        Checks.due("17 three times 1.0001: the sum is rounded, once", three.debt(), 4);
        Checks.due("18 three times 1.0001: the sum is rounded, once", three.debtAnew(), 4);
        Checks.due("16 1.0001", three.balance(2), 2);
    }

    private static void owedIsAtMostTheWorth() {
        EquityRelease desk = interestFree(10000, 60, 0, 2000);
        desk.value(2001);
        Checks.due("19 a worth of 2001", desk.owed(), 2000);
        Checks.due("20 a worth of 2001", desk.spared(), 0);
        desk.value(2000);
        Checks.due("19 a worth of 2000", desk.owed(), 2000);
        Checks.due("20 a worth of 2000", desk.spared(), 0);
        desk.value(1999);
        Checks.due("19 a worth of 1999", desk.owed(), 1999);
        Checks.due("20 a worth of 1999", desk.spared(), 1);
        desk.value(0);
        Checks.due("19 a worth of 0", desk.owed(), 0);
        Checks.due("20 a worth of 0", desk.spared(), 2000);
        Checks.due("17 the debt stays", desk.debt(), 2000);
        desk.value(10000000);
        Checks.due("19 a worth of 10000000", desk.owed(), 2000);
    }

    // ---- paying back

    private static void paidBackInOrder() {
        EquityRelease desk = interestFree(100000, 60, 0, 100);
        desk.draw(200);
        desk.draw(300);
        desk.pay(100);
        Checks.due("16 just the first", desk.balance(0), 0);
        Checks.due("16 not the second", desk.balance(1), 200);
        desk.pay(201);
        Checks.due("16 the second", desk.balance(1), 0);
        Checks.due("16 and 1 of the third", desk.balance(2), 299);
        desk.draw(50);
        desk.pay(299);
        Checks.due("16 just the third", desk.balance(2), 0);
        Checks.due("16 not the last", desk.balance(3), 50);
        Checks.due("18 the last alone", desk.debtAnew(), 50);
    }

    private static void asMuchAsThereIs() {
        EquityRelease desk = new EquityRelease();
        desk.begin(1000, 90, 0, 100);
        desk.pass(1);
        desk.draw(50);
        Checks.due("17 100.0136 and 50", desk.debt(), 151);
        desk.pay(101);
        Checks.due("16 100.0136 from the first", desk.balance(0), 0);
        Checks.due("16 0.9864 from the second", desk.balance(1), 50);
        desk.pay(49);
        Checks.due("17 0.0136 is left", desk.debt(), 1);
        Checks.due("18 0.0136 is left", desk.debtAnew(), 1);
        desk.pay(1);
        Checks.due("17 no more is taken than there is", desk.debt(), 0);
        desk.draw(50);
        Checks.due("17 nothing is carried over", desk.debt(), 50);
        Checks.due("18 nothing is carried over", desk.debtAnew(), 50);
        EquityRelease least = interestFree(1000, 60, 0, 0);
        least.setRate(365);
        least.draw(1);
        least.pass(1);
        least.pay(1);
        Checks.due("17 0.0001 is left", least.debt(), 1);
        least.pay(1);
        Checks.due("17 0.0001 is taken", least.debt(), 0);
        Checks.due("18 0.0001 is taken", least.debtAnew(), 0);
    }

    private static void theYearOfTheLoan() {
        EquityRelease desk = new EquityRelease();
        desk.setRate(0);
        desk.pass(300);
        desk.begin(100000, 60, 0, 20000);
        desk.pay(1500);
        desk.pass(65);
        Checks.due("21 day 365 is in the first year", desk.allowance(), 500);
        desk.pass(299);
        Checks.due("21 the first year's last day", desk.allowance(), 500);
        Checks.due("5 the first year's last day, 10 percent of 500", desk.pay(1000), 50);
        desk.pass(1);
        Checks.due("21 the second year's first day", desk.allowance(), 2000);
        Checks.due("5 the second year's first day, 9 percent of 500", desk.pay(2500), 45);
        desk.pass(364);
        Checks.due("21 the second year's last day", desk.allowance(), 0);
        desk.pass(1);
        Checks.due("21 the third year's first day", desk.allowance(), 2000);
    }

    private static void theTenthIsRoundedDown() {
        Checks.due("21 a tenth of 9", interestFree(1000, 60, 0, 9).allowance(), 0);
        Checks.due("21 a tenth of 10", interestFree(1000, 60, 0, 10).allowance(), 1);
        Checks.due("21 a tenth of 19", interestFree(1000, 60, 0, 19).allowance(), 1);
        Checks.due("21 a tenth of 20", interestFree(1000, 60, 0, 20).allowance(), 2);
        Checks.due("21 a tenth of nothing", interestFree(1000, 60, 0, 0).allowance(), 0);
        EquityRelease desk = interestFree(1000, 60, 0, 9);
        desk.draw(9);
        Checks.due("21 a tenth of 9 and 9", desk.allowance(), 1);
        desk.draw(2);
        Checks.due("21 a tenth of 9, 9 and 2", desk.allowance(), 2);
    }

    private static void theTenthOfAllThatWasDrawn() {
        EquityRelease desk = interestFree(100000, 60, 0, 10000);
        desk.draw(5000);
        Checks.due("21 with what is drawn on the day", desk.allowance(), 1500);
        Checks.due("5 with what is drawn on the day", desk.pay(1500), 0);
        desk.pass(365);
        desk.draw(1000);
        Checks.due("21 with what was drawn in another year", desk.allowance(), 1600);
        desk.move(200000);
        Checks.due("21 with what was drawn ahead of a move", desk.allowance(), 1600);
        desk.draw(400);
        Checks.due("21 with what was drawn since the move", desk.allowance(), 1640);
        desk.pay(14900);
        Checks.due("17 all is paid back", desk.debt(), 0);
        desk.pass(365);
        Checks.due("21 with what is paid back", desk.allowance(), 1640);
    }

    private static void aPaymentOfTheYearCounts() {
        EquityRelease desk = interestFree(100000, 60, 0, 10000);
        desk.pay(400);
        Checks.due("21 600 are left", desk.allowance(), 600);
        Checks.due("5 all of it", desk.pay(600), 0);
        Checks.due("21 nothing is left", desk.allowance(), 0);
        Checks.due("5 10 above", desk.pay(10), 1);
        desk.pass(365);
        Checks.due("21 not in the next year", desk.allowance(), 1000);
        Checks.due("5 100 above, 9 percent", desk.pay(1100), 9);
    }

    /** All that is paid back in the year counts, also what stood above the tenth of its day. */
    private static void whatWasChargedCounts() {
        EquityRelease desk = interestFree(100000, 60, 0, 10000);
        Checks.due("5 500 above the tenth of 10000", desk.pay(1500), 50);
        Checks.due("21 at least 0", desk.allowance(), 0);
        desk.draw(5000);
        Checks.due("21 1500 of the tenth of 15000 are paid", desk.allowance(), 0);
        desk.draw(10);
        Checks.due("21 1500 of the tenth of 15010 are paid", desk.allowance(), 1);
        Checks.due("5 1 is free, 10 are above", desk.pay(11), 1);
    }

    private static void aWaivedPaymentCounts() {
        EquityRelease desk = interestFree(100000, 60, 70, 10000);
        desk.end(1);
        desk.pass(1095);
        Checks.due("5 waived on the day 1095, the fourth year's first", desk.pay(1500), 0);
        Checks.due("21 it counts", desk.allowance(), 0);
        desk.pass(1);
        Checks.due("5 on the next day, 7 percent", desk.pay(100), 7);
        desk.pass(363);
        Checks.due("21 until the year is over", desk.allowance(), 0);
        desk.pass(1);
        Checks.due("21 not in the next year", desk.allowance(), 1000);
    }

    private static void aMoveIsLeftAside() {
        EquityRelease desk = interestFree(100000, 60, 0, 20000);
        desk.pay(300);
        Checks.due("9 9700 are paid by the move", desk.move(40000), 9700);
        Checks.due("21 the payment counts, the move does not", desk.allowance(), 1700);
        Checks.due("5 1700 are free", desk.pay(1700), 0);
        Checks.due("5 10 are not", desk.pay(10), 1);
        Checks.due("9 another move", desk.move(20000), 3290);
        Checks.due("21 it frees nothing", desk.allowance(), 0);
    }

    // ---- charges

    private static void thePercentIsAtLeast0() {
        EquityRelease desk = new EquityRelease();
        desk.setRate(0);
        desk.pass(37);
        desk.begin(1000000, 60, 0, 10000);
        for (int year = 0; year < 14; year++) {
            int due = year < 10 ? (10 - year) * 10 : 0;
            Checks.due("22 the first day of year " + year, desk.charge(2000), due);
            desk.pass(364);
            Checks.due("22 the last day of year " + year, desk.charge(2000), due);
            desk.pass(1);
        }
        EquityRelease last = interestFree(1000000, 60, 0, 10000);
        passYears(last, 41);
        last.pass(35);
        Checks.due("22 on the day 15000", last.charge(10000000), 0);
        Checks.due("5 on the day 15000", last.pay(10000), 0);
        Checks.due("21 on the day 15000 it counts", last.allowance(), 0);
    }

    private static void theChargeIsRoundedDown() {
        EquityRelease desk = interestFree(100000, 60, 0, 100);
        Checks.due("22 10 percent of 0", desk.charge(10), 0);
        Checks.due("22 10 percent of 9", desk.charge(19), 0);
        Checks.due("22 10 percent of 10", desk.charge(20), 1);
        Checks.due("22 10 percent of 19", desk.charge(29), 1);
        Checks.due("22 10 percent of 20", desk.charge(30), 2);
        Checks.due("22 10 percent of 9999990", desk.charge(10000000), 999999);
        desk.pass(365);
        Checks.due("22 9 percent of 11", desk.charge(21), 0);
        Checks.due("22 9 percent of 12", desk.charge(22), 1);
        Checks.due("5 9 percent of 22", desk.pay(32), 1);
        Checks.due("5 9 percent of 23", desk.pay(23), 2);
    }

    private static void waivedFor1095Days() {
        for (int life = 0; life < 2; life++) {
            EquityRelease desk = interestFree(100000, 60, 70, 10000);
            desk.pass(365);
            Checks.due("22 ahead of the end of " + life, desk.charge(2000), 90);
            desk.end(life);
            Checks.due("22 on the day of the end of " + life, desk.charge(10000000), 0);
            desk.pass(1094);
            Checks.due("22 1094 days after the end of " + life, desk.charge(10000000), 0);
            desk.pass(1);
            Checks.due("22 1095 days after the end of " + life, desk.charge(10000000), 0);
            desk.pass(1);
            Checks.due("22 1096 days after the end of " + life, desk.charge(2000), 60);
            Checks.due("5 1096 days after the end of " + life, desk.pay(2000), 60);
        }
        EquityRelease first = interestFree(100000, 60, 70, 10000);
        first.end(0);
        first.pass(1095);
        Checks.due("22 an end on the day 0, 1095 days after", first.charge(2000), 0);
        first.pass(1);
        Checks.due("22 an end on the day 0, 1096 days after", first.charge(2000), 70);
    }

    private static void waivedAfterADeathAlone() {
        EquityRelease desk = interestFree(100000, 60, 70, 10000);
        Checks.due("22 on the day 0", desk.charge(2000), 100);
        desk.pass(1094);
        Checks.due("22 on the day 1094", desk.charge(2000), 80);
        EquityRelease single = interestFree(100000, 60, 0, 10000);
        Checks.due("22 one life, on the day 0", single.charge(2000), 100);
        single.pass(1095);
        Checks.due("22 one life, on the day 1095", single.charge(2000), 70);
    }

    // ---- the end, and moves

    private static void theLoanEndsWithTheLastLife() {
        EquityRelease desk = new EquityRelease();
        desk.setRate(365);
        desk.begin(100000, 60, 70, 10000);
        desk.end(0);
        Checks.due("11 one of two has ended", desk.hasEnded(), false);
        desk.pass(1);
        Checks.due("17 interest is added", desk.debt(), 10001);
        desk.end(1);
        Checks.due("11 both have ended", desk.hasEnded(), true);
        desk.pass(1);
        Checks.due("17 no day adds interest", desk.debt(), 10001);
        Checks.due("18 no day adds interest", desk.debtAnew(), 10001);
        desk.pass(3650);
        Checks.due("16 no day adds interest", desk.balance(0), 10001);
        Checks.due("18 no day adds interest", desk.debtAnew(), 10001);
        EquityRelease alone = new EquityRelease();
        alone.setRate(2000);
        alone.begin(100000, 60, 0, 10000);
        alone.end(0);
        alone.pass(3650);
        Checks.due("17 ended on the day of beginning", alone.debt(), 10000);
        Checks.due("18 ended on the day of beginning", alone.debtAnew(), 10000);
    }

    private static void aMoveToALoanAsGreatAsTheDebt() {
        EquityRelease just = interestFree(100000, 60, 0, 1000);
        Checks.due("9 a greatest loan of 1000", just.move(4000), 0);
        Checks.due("14 no room", just.room(), 0);
        Checks.due("17 all is carried", just.debt(), 1000);
        EquityRelease below = interestFree(100000, 60, 0, 1000);
        Checks.due("9 a greatest loan of 999.75", below.move(3999), 1);
        Checks.due("14 at least 0", below.room(), 0);
        Checks.due("17 999 are carried", below.debt(), 999);
        EquityRelease above = interestFree(100000, 60, 0, 1000);
        Checks.due("9 a greatest loan of 1001", above.move(4004), 0);
        Checks.due("14 a room of 1", above.room(), 1);
        // 100 for a day at 5 percent: 100.0136, which is a debt of 101.
        EquityRelease rolled = new EquityRelease();
        rolled.begin(1000, 60, 0, 100);
        rolled.pass(1);
        Checks.due("9 a greatest loan of 100", rolled.move(400), 1);
        Checks.due("17 99.0136 are carried", rolled.debt(), 100);
        Checks.due("14 at least 0", rolled.room(), 0);
        Checks.due("18 99.0136 are carried", rolled.debtAnew(), 100);
    }

    private static void aMoveThatLeavesNothing() {
        EquityRelease desk = new EquityRelease();
        desk.begin(1000, 60, 0, 100);
        desk.pass(1);
        desk.draw(50);
        Checks.due("9 to a house of no worth", desk.move(0), 151);
        Checks.due("13 no worth", desk.worth(), 0);
        Checks.due("14 no room", desk.room(), 0);
        Checks.due("17 no debt", desk.debt(), 0);
        Checks.due("18 no debt", desk.debtAnew(), 0);
        Checks.due("19 nothing is owed", desk.owed(), 0);
        Checks.due("15 drawings stay", desk.drawings(), 2);
        Checks.due("9 and back", desk.move(1000), 0);
        Checks.due("14 the whole greatest loan", desk.room(), 250);
    }
}
