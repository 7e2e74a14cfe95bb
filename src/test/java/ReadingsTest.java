/** Promises 10 to 22: what there is. */
public final class ReadingsTest {
    public static void main(String[] args) {
        withoutLoan();
        days();
        ended();
        ages();
        worthAndRoom();
        countOfDrawings();
        balances();
        debtIsRoundedOnce();
        debtAnewFollowsPayments();
        owedAndSpared();
        allowanceByYears();
        allowanceOfAnEndedLoan();
        charges();
        readingChangesNothing();
        Checks.finish("ReadingsTest");
    }

    private static void withoutLoan() {
        EquityRelease desk = new EquityRelease();
        desk.pass(1000);
        Checks.due("11 without a loan", desk.hasEnded(), false);
        Checks.due("12 without a loan", desk.age(), -1);
        Checks.due("13 without a loan", desk.worth(), 0);
        Checks.due("14 without a loan", desk.room(), 0);
        Checks.due("15 without a loan", desk.drawings(), 0);
        Checks.throwsIndex("16 without a loan", () -> desk.balance(0));
        Checks.due("17 without a loan", desk.debt(), 0);
        Checks.due("18 without a loan", desk.debtAnew(), 0);
        Checks.due("19 without a loan", desk.owed(), 0);
        Checks.due("20 without a loan", desk.spared(), 0);
        Checks.due("21 without a loan", desk.allowance(), 0);
        Checks.throwsState("22 without a loan", () -> desk.charge(1));
    }

    private static void days() {
        EquityRelease desk = new EquityRelease();
        desk.pass(3);
        desk.pass(4);
        Checks.due("10 days add up", desk.day(), 7);
        desk.begin(1000, 60, 0, 0);
        Checks.due("10 a loan takes no day", desk.day(), 7);
        desk.end(0);
        desk.pass(5);
        Checks.due("10 days after the end", desk.day(), 12);
    }

    private static void ended() {
        EquityRelease desk = new EquityRelease();
        desk.begin(1000, 60, 60, 10);
        Checks.due("11 two lives", desk.hasEnded(), false);
        desk.end(1);
        Checks.due("11 one life", desk.hasEnded(), false);
        desk.pass(100);
        desk.end(0);
        Checks.due("11 no life", desk.hasEnded(), true);
    }

    private static void ages() {
        EquityRelease desk = new EquityRelease();
        desk.pass(365);
        desk.begin(1000, 70, 60, 0);
        Checks.due("12 the least age", desk.age(), 61);
        desk.pass(364);
        Checks.due("12 not yet a year", desk.age(), 61);
        desk.pass(1);
        Checks.due("12 a year by the day 0", desk.age(), 62);
        desk.end(1);
        Checks.due("12 of those that have not ended", desk.age(), 72);
        desk.end(0);
        Checks.due("12 all have ended", desk.age(), -1);
        EquityRelease old = new EquityRelease();
        old.begin(1000, 95, 0, 0);
        old.pass(3650);
        Checks.due("12 above 95", old.age(), 105);
    }

    private static void worthAndRoom() {
        EquityRelease desk = new EquityRelease();
        desk.begin(5000, 60, 0, 100);
        Checks.due("13 at first", desk.worth(), 5000);
        Checks.due("14 at first", desk.room(), 1150);
        desk.draw(150);
        Checks.due("14 after a drawing", desk.room(), 1000);
        desk.pay(200);
        desk.pass(3650);
        desk.value(4000);
        Checks.due("13 after a valuation", desk.worth(), 4000);
        Checks.due("14 stays", desk.room(), 1000);
        desk.move(6000);
        Checks.due("13 after a move", desk.worth(), 6000);
        Checks.due("14 after a move", desk.room(), 2100 - (int) desk.debt());
        desk.end(0);
        Checks.due("13 after the end", desk.worth(), 6000);
        Checks.due("14 after the end", desk.room(), 2100 - (int) desk.debt());
    }

    private static void countOfDrawings() {
        EquityRelease first = new EquityRelease();
        first.begin(5000, 60, 0, 1);
        Checks.due("15 the first one", first.drawings(), 1);
        first.draw(1);
        Checks.due("15 and another", first.drawings(), 2);
        EquityRelease none = new EquityRelease();
        none.begin(5000, 60, 0, 0);
        Checks.due("15 a first one of 0 is none", none.drawings(), 0);
        Checks.throwsIndex("16 a first one of 0 is none", () -> none.balance(0));
        none.draw(7);
        Checks.due("15 the drawing after it", none.drawings(), 1);
        Checks.due("16 the drawing after it", none.balance(0), 7);
    }

    private static void balances() {
        EquityRelease desk = new EquityRelease();
        desk.setRate(365);
        desk.begin(100000, 60, 0, 10000);
        desk.pass(1);
        Checks.due("16 just whole", desk.balance(0), 10001);
        desk.pass(1);
        Checks.due("16 rounded up", desk.balance(0), 10003);
        Checks.throwsIndex("16 drawing -1", () -> desk.balance(-1));
        Checks.throwsIndex("16 drawing 1", () -> desk.balance(1));
        Checks.throwsIndex("16 drawing 20", () -> desk.balance(20));
        Checks.throwsIndex("16 greatest int", () -> desk.balance(Integer.MAX_VALUE));
        Checks.throwsIndex("16 least int", () -> desk.balance(Integer.MIN_VALUE));
    }

    private static void debtIsRoundedOnce() {
        EquityRelease desk = new EquityRelease();
        desk.begin(100000, 60, 0, 100);
        desk.draw(100);
        desk.draw(100);
        Checks.due("17 whole", desk.debt(), 300);
        desk.pass(1);
        Checks.due("16 each rounded up", desk.balance(0) + desk.balance(1) + desk.balance(2), 303);
        Checks.due("17 the sum rounded up", desk.debt(), 301);
        Checks.due("18 the sum rounded up", desk.debtAnew(), 301);
        // 10000 parts at a rate of 364 bring less than one part a day.
        EquityRelease small = new EquityRelease();
        small.setRate(364);
        small.begin(100000, 60, 0, 1);
        small.pass(3650);
        Checks.due("6 less than a part is no interest", small.debt(), 1);
    }

    private static void debtAnewFollowsPayments() {
        EquityRelease desk = new EquityRelease();
        desk.setRate(1999);
        desk.begin(1000000, 80, 85, 12345);
        same(desk, 12345);
        desk.pass(17);
        desk.setRate(777);
        desk.draw(54321);
        desk.pay(333);
        desk.pass(200);
        same(desk, 70215);
        desk.pay(20000);
        desk.pay(1);
        desk.pass(400);
        same(desk, 54676);
        desk.draw(999);
        desk.move(100000);
        desk.pass(1);
        desk.pay(2);
        desk.pass(3000);
        same(desk, desk.debt());
        desk.end(0);
        desk.pass(30);
        long last = desk.debt();
        desk.end(1);
        desk.pass(30);
        same(desk, last);
    }

    private static void same(EquityRelease desk, long debt) {
        Checks.due("17 on day " + desk.day(), desk.debt(), debt);
        Checks.due("18 on day " + desk.day(), desk.debtAnew(), debt);
    }

    private static void owedAndSpared() {
        EquityRelease desk = new EquityRelease();
        desk.setRate(0);
        desk.begin(10000, 60, 0, 2000);
        Checks.due("19 the debt", desk.owed(), 2000);
        Checks.due("20 nothing", desk.spared(), 0);
        desk.value(2000);
        Checks.due("19 the debt is the worth", desk.owed(), 2000);
        Checks.due("20 nothing", desk.spared(), 0);
        desk.value(1999);
        Checks.due("19 the worth", desk.owed(), 1999);
        Checks.due("20 one", desk.spared(), 1);
        Checks.due("17 the debt stays", desk.debt(), 2000);
        desk.end(0);
        desk.value(0);
        Checks.due("19 no worth", desk.owed(), 0);
        Checks.due("20 all of it", desk.spared(), 2000);
    }

    private static void allowanceByYears() {
        EquityRelease desk = new EquityRelease();
        desk.setRate(0);
        desk.pass(200);
        desk.begin(100000, 60, 0, 9999);
        Checks.due("21 rounded down", desk.allowance(), 999);
        desk.pay(900);
        Checks.due("21 less what was paid", desk.allowance(), 99);
        desk.pass(364);
        Checks.due("21 the year's last day", desk.allowance(), 99);
        desk.pay(200);
        Checks.due("21 at least 0", desk.allowance(), 0);
        desk.draw(1011);
        Checks.due("21 what is above it counts against a greater tenth", desk.allowance(), 1);
        desk.pass(1);
        Checks.due("21 a new year", desk.allowance(), 1101);
        desk.pay(8899);
        desk.pass(365);
        Checks.due("21 the tenth alone, whatever the debt", desk.allowance(), 1101);
        Checks.due("17 the debt", desk.debt(), 1011);
    }

    private static void allowanceOfAnEndedLoan() {
        EquityRelease desk = new EquityRelease();
        desk.begin(100000, 60, 0, 10000);
        desk.pay(400);
        desk.end(0);
        Checks.due("21 when ended", desk.allowance(), 600);
        desk.pass(365);
        Checks.due("21 when ended, a year later", desk.allowance(), 1000);
        EquityRelease none = new EquityRelease();
        none.begin(100000, 60, 0, 0);
        Checks.due("21 nothing was drawn", none.allowance(), 0);
    }

    private static void charges() {
        EquityRelease desk = new EquityRelease();
        desk.setRate(0);
        Checks.throwsArgument("22 amount 0 without a loan", () -> desk.charge(0));
        desk.begin(100000, 60, 70, 10000);
        Checks.throwsArgument("22 amount 0", () -> desk.charge(0));
        Checks.throwsArgument("22 amount -1", () -> desk.charge(-1));
        Checks.throwsArgument("22 amount 10000001", () -> desk.charge(10000001));
        Checks.due("22 the allowance", desk.charge(1000), 0);
        Checks.due("22 below one", desk.charge(1009), 0);
        Checks.due("22 just one", desk.charge(1010), 1);
        Checks.due("22 above the debt too", desk.charge(10000000), 999900);
        desk.pay(600);
        Checks.due("22 after a payment", desk.charge(600), 20);
        desk.pass(730);
        Checks.due("22 after two years", desk.charge(2000), 80);
        desk.end(0);
        Checks.due("22 waived", desk.charge(2000), 0);
        desk.pass(1095);
        Checks.due("22 waived for 1095 days", desk.charge(2000), 0);
        desk.pass(1);
        Checks.due("22 after 1096 days", desk.charge(2000), 50);
        desk.end(1);
        Checks.throwsState("22 ended", () -> desk.charge(1));
        Checks.throwsArgument("22 amount 0 when ended", () -> desk.charge(0));
    }

    private static void readingChangesNothing() {
        EquityRelease read = new EquityRelease();
        EquityRelease left = new EquityRelease();
        read.begin(100000, 60, 70, 10000);
        left.begin(100000, 60, 70, 10000);
        for (int i = 0; i < 5; i++) {
            read.charge(5000);
            read.debtAnew();
            read.allowance();
            read.owed();
            read.spared();
            read.balance(0);
            read.age();
            read.pass(100);
            left.pass(100);
        }
        Checks.due("17 read or not", read.debt(), left.debt());
        Checks.due("5 read or not", read.pay(5000), left.pay(5000));
        Checks.due("14 read or not", read.room(), left.room());
    }
}
