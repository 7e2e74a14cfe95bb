/**
 * The range behind each argument and each 'Throws' sentence, one test for each: the last value that
 * is taken, the first that is refused, and that a refused call changes nothing.
 */
public final class BoundsTest {
    public static void main(String[] args) {
        beginWorth();
        beginFirst();
        beginSecond();
        beginAmount();
        beginTwice();
        beginAboveTheGreatestLoan();
        setRateRange();
        drawAmount();
        drawWithoutLoan();
        drawWhenEnded();
        drawAboveTheRoom();
        drawAfterTwenty();
        drawAfterTwentyWithoutAFirstOne();
        payAmount();
        payWithoutLoan();
        payWhenEnded();
        payAboveTheDebt();
        payAfterForty();
        payAfterFortyWithMoves();
        passDays();
        passTheLastDay();
        endNoSuchLife();
        endAheadOfTheLoan();
        endTwice();
        valueWorth();
        valueWithoutLoan();
        moveWorth();
        moveWithoutLoan();
        moveWhenEnded();
        moveAfterForty();
        balanceOfNoDrawing();
        chargeAmount();
        chargeWithoutLoan();
        chargeWhenEnded();
        chargeIsNotRefusedOtherwise();
        Checks.finish("BoundsTest");
    }

    // ---- where the calls are tried

    private static void fresh(EquityRelease desk) {
        Checks.due("1 the day of a new object", desk.day(), 0);
    }

    private static void running(EquityRelease desk) {
        desk.pass(40);
        desk.begin(100000, 60, 70, 10000);
        desk.pass(500);
        desk.pay(300);
        desk.setRate(900);
        desk.draw(2000);
        desk.pass(30);
    }

    private static void ended(EquityRelease desk) {
        running(desk);
        desk.end(1);
        desk.pass(20);
        desk.end(0);
        desk.pass(5);
    }

    private static void drawnTwentyTimes(EquityRelease desk) {
        desk.begin(100000, 90, 0, 1000);
        for (int i = 1; i < 20; i++) {
            desk.draw(1000);
        }
    }

    private static void paidFortyTimes(EquityRelease desk) {
        desk.begin(100000, 90, 0, 1000);
        for (int i = 0; i < 40; i++) {
            desk.pay(1);
        }
    }

    private static void onTheLastDay(EquityRelease desk) {
        desk.setRate(300);
        desk.begin(100000, 60, 70, 1000);
        for (int i = 0; i < 4; i++) {
            desk.pass(3650);
        }
        desk.pass(400);
    }

    /** A range is looked at ahead of the state: IllegalArgumentException is named first. */
    private static void argument(String what, Twins.Call call) {
        Twins.argument(what + ", a new object", BoundsTest::fresh, call);
        Twins.argument(what + ", a running loan", BoundsTest::running, call);
        Twins.argument(what + ", an ended loan", BoundsTest::ended, call);
        Twins.argument(what + ", 20 drawings", BoundsTest::drawnTwentyTimes, call);
        Twins.argument(what + ", 40 payments", BoundsTest::paidFortyTimes, call);
        Twins.argument(what + ", the last day", BoundsTest::onTheLastDay, call);
    }

    private static EquityRelease after(Twins.Story story) {
        EquityRelease desk = new EquityRelease();
        story.tell(desk);
        return desk;
    }

    // ---- promise 2

    private static long begin(int worth, int first, int second, int amount) {
        return new EquityRelease().begin(worth, first, second, amount);
    }

    private static void beginWorth() {
        Checks.due("2 worth 1000", begin(1000, 55, 0, 0), 200);
        Checks.due("2 worth 10000000", begin(10000000, 55, 0, 0), 2000000);
        argument("2 worth 999", d -> d.begin(999, 55, 0, 0));
        argument("2 worth 0", d -> d.begin(0, 55, 0, 0));
        argument("2 worth 10000001", d -> d.begin(10000001, 55, 0, 0));
        argument("2 worth least int", d -> d.begin(Integer.MIN_VALUE, 55, 0, 0));
        argument("2 worth greatest int", d -> d.begin(Integer.MAX_VALUE, 55, 0, 0));
    }

    private static void beginFirst() {
        Checks.due("2 first 55", begin(1000, 55, 0, 0), 200);
        Checks.due("2 first 95", begin(1000, 95, 0, 0), 550);
        argument("2 first 54", d -> d.begin(1000, 54, 0, 0));
        argument("2 first 96", d -> d.begin(1000, 96, 0, 0));
        argument("2 first 0 with a second", d -> d.begin(1000, 0, 60, 0));
        argument("2 first least int", d -> d.begin(1000, Integer.MIN_VALUE, 0, 0));
        argument("2 first greatest int", d -> d.begin(1000, Integer.MAX_VALUE, 0, 0));
    }

    private static void beginSecond() {
        Checks.due("2 second 55", begin(1000, 95, 55, 0), 200);
        Checks.due("2 second 95", begin(1000, 95, 95, 0), 550);
        Checks.due("2 second 0 is none", begin(1000, 95, 0, 0), 550);
        argument("2 second 54", d -> d.begin(1000, 60, 54, 0));
        argument("2 second 96", d -> d.begin(1000, 60, 96, 0));
        argument("2 second 1", d -> d.begin(1000, 60, 1, 0));
        argument("2 second -1", d -> d.begin(1000, 60, -1, 0));
        argument("2 second least int", d -> d.begin(1000, 60, Integer.MIN_VALUE, 0));
        argument("2 second greatest int", d -> d.begin(1000, 60, Integer.MAX_VALUE, 0));
    }

    private static void beginAmount() {
        Checks.due("2 amount 0", begin(1000, 55, 0, 0), 200);
        Checks.due("2 amount 1", begin(1000, 55, 0, 1), 199);
        argument("2 amount -1", d -> d.begin(1000, 55, 0, -1));
        argument("2 amount 10000001", d -> d.begin(10000000, 55, 0, 10000001));
        argument("2 amount least int", d -> d.begin(1000, 55, 0, Integer.MIN_VALUE));
        argument("2 amount greatest int", d -> d.begin(1000, 55, 0, Integer.MAX_VALUE));
        // 10000000 is in the range, but above every greatest loan.
        Twins.state("2 amount 10000000", BoundsTest::fresh, d -> d.begin(10000000, 95, 0, 10000000));
    }

    private static void beginTwice() {
        Twins.state("2 a loan is running", BoundsTest::running, d -> d.begin(1000, 60, 0, 0));
        Twins.state("2 a loan has ended", BoundsTest::ended, d -> d.begin(1000, 60, 0, 0));
        Twins.state("2 one of 0 was begun", d -> d.begin(1000, 60, 0, 0), d -> d.begin(2000, 70, 75, 1));
    }

    private static void beginAboveTheGreatestLoan() {
        Checks.due("2 the greatest loan", begin(1999, 55, 0, 399), 0);
        Twins.state("2 above it by 1", BoundsTest::fresh, d -> d.begin(1999, 55, 0, 400));
        Twins.state("2 by the younger life", BoundsTest::fresh, d -> d.begin(1000, 95, 55, 201));
        Checks.due("2 by the younger life", begin(1000, 95, 55, 200), 0);
        Twins.state("2 a day ahead of the year", d -> d.pass(364), d -> d.begin(1000, 55, 0, 201));
        EquityRelease older = after(d -> d.pass(365));
        Checks.due("2 a year later", older.begin(1000, 55, 0, 210), 0);
    }

    // ---- promise 3

    private static void setRateRange() {
        EquityRelease desk = new EquityRelease();
        Checks.due("3 rate 0", desk.setRate(0), 500);
        Checks.due("3 rate 2000", desk.setRate(2000), 0);
        Checks.due("3 rate 2000 was taken", desk.setRate(1), 2000);
        argument("3 rate -1", d -> d.setRate(-1));
        argument("3 rate 2001", d -> d.setRate(2001));
        argument("3 rate least int", d -> d.setRate(Integer.MIN_VALUE));
        argument("3 rate greatest int", d -> d.setRate(Integer.MAX_VALUE));
        Checks.due("3 also when ended", after(BoundsTest::ended).setRate(1), 900);
    }

    // ---- promise 4

    private static void drawAmount() {
        EquityRelease desk = new EquityRelease();
        desk.begin(10000000, 90, 0, 0);
        Checks.due("4 amount 1", desk.draw(1), 5499999);
        argument("4 amount 0", d -> d.draw(0));
        argument("4 amount -1", d -> d.draw(-1));
        argument("4 amount 10000001", d -> d.draw(10000001));
        argument("4 amount least int", d -> d.draw(Integer.MIN_VALUE));
        argument("4 amount greatest int", d -> d.draw(Integer.MAX_VALUE));
        // 10000000 is in the range, but above every room.
        Twins.state("4 amount 10000000", d -> d.begin(10000000, 90, 0, 0), d -> d.draw(10000000));
    }

    private static void drawWithoutLoan() {
        Twins.state("4 no loan", BoundsTest::fresh, d -> d.draw(1));
    }

    private static void drawWhenEnded() {
        EquityRelease one = after(BoundsTest::running);
        one.end(0);
        Checks.due("4 while one life has not ended", one.draw(1), 12999);
        Twins.state("4 ended", BoundsTest::ended, d -> d.draw(1));
    }

    private static void drawAboveTheRoom() {
        Checks.due("4 the room", after(BoundsTest::running).draw(13000), 0);
        Twins.state("4 above the room by 1", BoundsTest::running, d -> d.draw(13001));
        Twins.state("4 no room is left", d -> d.begin(1000, 55, 0, 200), d -> d.draw(1));
    }

    private static void drawAfterTwenty() {
        EquityRelease desk = new EquityRelease();
        desk.begin(100000, 90, 0, 1);
        for (int i = 1; i < 20; i++) {
            Checks.due("4 with " + i + " drawings", desk.draw(1), 54999 - i);
        }
        Checks.due("15 twenty", desk.drawings(), 20);
        Checks.due("16 the last one", desk.balance(19), 1);
        Twins.state("4 there are 20 drawings", BoundsTest::drawnTwentyTimes, d -> d.draw(1));
        Twins.state("4 20 drawings that are paid back", d -> {
            drawnTwentyTimes(d);
            d.pay(20000);
        }, d -> d.draw(1));
        Twins.state("4 20 drawings and a move", d -> {
            drawnTwentyTimes(d);
            d.move(10000000);
        }, d -> d.draw(1));
    }

    private static void drawAfterTwentyWithoutAFirstOne() {
        EquityRelease desk = new EquityRelease();
        desk.begin(100000, 90, 0, 0);
        for (int i = 0; i < 20; i++) {
            Checks.due("4 with " + i + " drawings, no first one", desk.draw(1), 54999 - i);
        }
        Checks.throwsState("4 20 drawings, no first one", () -> desk.draw(1));
    }

    // ---- promise 5

    private static void payAmount() {
        EquityRelease small = after(BoundsTest::running);
        Checks.due("5 amount 1", small.pay(1), 0);
        EquityRelease great = new EquityRelease();
        great.setRate(2000);
        great.begin(10000000, 95, 0, 5500000);
        great.pass(1825);
        Checks.due("5 amount 10000000, 5 percent of 9450000", great.pay(10000000), 472500);
        argument("5 amount 0", d -> d.pay(0));
        argument("5 amount -1", d -> d.pay(-1));
        argument("5 amount 10000001", d -> d.pay(10000001));
        argument("5 amount least int", d -> d.pay(Integer.MIN_VALUE));
        argument("5 amount greatest int", d -> d.pay(Integer.MAX_VALUE));
        Checks.throwsArgument("5 amount 10000001 of a greater debt", () -> {
            great.pass(3650);
            return great.debt() > 10000001 ? great.pay(10000001) : -1;
        });
    }

    private static void payWithoutLoan() {
        Twins.state("5 no loan", BoundsTest::fresh, d -> d.pay(1));
    }

    private static void payWhenEnded() {
        EquityRelease one = after(BoundsTest::running);
        one.end(0);
        Checks.due("5 while one life has not ended", one.pay(1), 0);
        Twins.state("5 ended", BoundsTest::ended, d -> d.pay(1));
    }

    private static void payAboveTheDebt() {
        // 100 for a day at 5 percent: 100.0136, which is a debt of 101.
        Twins.Story day = d -> {
            d.begin(1000, 90, 0, 100);
            d.pass(1);
        };
        EquityRelease desk = after(day);
        Checks.due("5 the debt", desk.pay(101), 9);
        Checks.due("17 nothing is left", desk.debt(), 0);
        Checks.throwsState("5 no debt", () -> desk.pay(1));
        Twins.state("5 above the debt by 1", day, d -> d.pay(102));
        Twins.state("5 nothing was drawn", d -> d.begin(1000, 90, 0, 0), d -> d.pay(1));
        Twins.state("5 10000000 is in the range", BoundsTest::running, d -> d.pay(10000000));
        EquityRelease worthless = after(day);
        worthless.value(0);
        Checks.due("5 the debt, whatever is owed", worthless.pay(101), 9);
    }

    private static void payAfterForty() {
        EquityRelease desk = new EquityRelease();
        desk.setRate(0);
        desk.begin(1000, 90, 0, 100);
        for (int i = 0; i < 40; i++) {
            desk.pay(1);
            Checks.due("17 after payment " + i, desk.debt(), 99 - i);
        }
        Checks.throwsState("5 paid back 40 times", () -> desk.pay(1));
        Checks.due("18 after 40 payments", desk.debtAnew(), 60);
        Checks.due("4 there is still room", desk.draw(1), 449);
        Twins.state("5 paid back 40 times", BoundsTest::paidFortyTimes, d -> d.pay(1));
        EquityRelease both = new EquityRelease();
        both.begin(1000, 90, 0, 100);
        both.draw(100);
        both.pay(150);
        for (int i = 1; i < 40; i++) {
            both.pay(1);
        }
        Checks.throwsState("5 40 times, two drawings", () -> both.pay(1));
        Checks.due("17 40 times, two drawings", both.debt(), 11);
        Checks.due("18 40 times, two drawings", both.debtAnew(), 11);
        Twins.state("5 40 times, years ago", d -> {
            paidFortyTimes(d);
            d.pass(3650);
        }, d -> d.pay(1));
    }

    private static void payAfterFortyWithMoves() {
        Twins.Story paid39 = d -> {
            d.setRate(0);
            d.begin(100000, 90, 0, 1000);
            for (int i = 0; i < 39; i++) {
                d.pay(1);
            }
        };
        EquityRelease desk = after(paid39);
        Checks.due("9 a move that pays nothing", desk.move(100000), 0);
        Checks.due("5 is not counted", desk.pay(1), 0);
        Twins.state("5 a move that pays is counted", d -> {
            paid39.tell(d);
            d.move(1000);
        }, d -> d.pay(1));
        EquityRelease moved = new EquityRelease();
        moved.begin(1000, 90, 0, 100);
        for (int i = 0; i < 41; i++) {
            moved.move(1000);
        }
        Checks.due("5 41 moves that pay nothing", moved.pay(10), 0);
    }

    // ---- promise 6

    private static void passDays() {
        EquityRelease desk = new EquityRelease();
        Checks.due("6 days 1", desk.pass(1), 1);
        Checks.due("6 days 3650", desk.pass(3650), 3651);
        argument("6 days 0", d -> d.pass(0));
        argument("6 days -1", d -> d.pass(-1));
        argument("6 days 3651", d -> d.pass(3651));
        argument("6 days least int", d -> d.pass(Integer.MIN_VALUE));
        argument("6 days greatest int", d -> d.pass(Integer.MAX_VALUE));
        Checks.due("6 also when ended", after(BoundsTest::ended).pass(1), 596);
    }

    private static void passTheLastDay() {
        Checks.due("6 up to 15000", after(BoundsTest::onTheLastDay).day(), 15000);
        Twins.state("6 15001", BoundsTest::onTheLastDay, d -> d.pass(1));
        Twins.state("6 as far as can be", BoundsTest::onTheLastDay, d -> d.pass(3650));
        Twins.Story day11350 = d -> {
            running(d);
            d.pass(3650);
            d.pass(3650);
            d.pass(3480);
        };
        Checks.due("6 3650 days to 15000", after(day11350).pass(3650), 15000);
        Twins.state("6 3650 days to 15001", d -> {
            day11350.tell(d);
            d.pass(1);
        }, d -> d.pass(3650));
        EquityRelease none = new EquityRelease();
        for (int i = 0; i < 4; i++) {
            none.pass(3650);
        }
        Checks.throwsState("6 15001 without a loan", () -> none.pass(401));
        Checks.due("6 15000 without a loan", none.pass(400), 15000);
    }

    // ---- promise 7

    private static void endNoSuchLife() {
        EquityRelease desk = after(BoundsTest::running);
        Checks.due("7 life 1", desk.end(1), 1);
        Checks.due("7 life 0", desk.end(0), 0);
        int[] none = {-1, 2, Integer.MIN_VALUE, Integer.MAX_VALUE};
        for (int life : none) {
            Twins.index("7 life " + life, BoundsTest::running, d -> d.end(life));
            Twins.index("7 life " + life + " when ended", BoundsTest::ended, d -> d.end(life));
        }
        Twins.Story single = d -> d.begin(1000, 60, 0, 100);
        Checks.due("7 the only life", after(single).end(0), 0);
        Twins.index("7 life 1 of one", single, d -> d.end(1));
        Twins.index("7 life 1 of one that has ended", d -> {
            single.tell(d);
            d.end(0);
        }, d -> d.end(1));
    }

    private static void endAheadOfTheLoan() {
        Twins.index("7 life 0 ahead of the loan", BoundsTest::fresh, d -> d.end(0));
        Twins.index("7 life 1 ahead of the loan", BoundsTest::fresh, d -> d.end(1));
        Twins.index("7 life -1 ahead of the loan", BoundsTest::fresh, d -> d.end(-1));
    }

    private static void endTwice() {
        Twins.Story first = d -> {
            running(d);
            d.end(0);
            d.pass(100);
        };
        Twins.state("7 life 0 has ended", first, d -> d.end(0));
        Checks.due("7 life 1 has not", after(first).end(1), 0);
        Twins.state("7 life 0 of an ended loan", BoundsTest::ended, d -> d.end(0));
        Twins.state("7 life 1 of an ended loan", BoundsTest::ended, d -> d.end(1));
        // A second end that was taken would begin the 1095 days anew.
        EquityRelease desk = after(first);
        Checks.throwsState("7 life 0 again", () -> desk.end(0));
        desk.pass(995);
        Checks.due("22 1095 days since the end", desk.charge(2000), 0);
        desk.pass(1);
        Checks.due("22 1096 days since the end, 6 percent", desk.charge(2000), 48);
    }

    // ---- promise 8

    private static void valueWorth() {
        EquityRelease desk = after(BoundsTest::running);
        Checks.due("8 worth 0", desk.value(0), 100000);
        Checks.due("8 worth 10000000", desk.value(10000000), 0);
        Checks.due("13 worth 10000000", desk.worth(), 10000000);
        argument("8 worth -1", d -> d.value(-1));
        argument("8 worth 10000001", d -> d.value(10000001));
        argument("8 worth least int", d -> d.value(Integer.MIN_VALUE));
        argument("8 worth greatest int", d -> d.value(Integer.MAX_VALUE));
    }

    private static void valueWithoutLoan() {
        Twins.state("8 no loan", BoundsTest::fresh, d -> d.value(0));
        Twins.state("8 no loan", BoundsTest::fresh, d -> d.value(10000000));
        Checks.due("8 also when ended", after(BoundsTest::ended).value(7), 100000);
    }

    // ---- promise 9

    private static void moveWorth() {
        EquityRelease desk = after(BoundsTest::running);
        Checks.due("9 worth 10000000", desk.move(10000000), 0);
        long debt = desk.debt();
        Checks.due("9 worth 0", desk.move(0), debt);
        argument("9 worth -1", d -> d.move(-1));
        argument("9 worth 10000001", d -> d.move(10000001));
        argument("9 worth least int", d -> d.move(Integer.MIN_VALUE));
        argument("9 worth greatest int", d -> d.move(Integer.MAX_VALUE));
    }

    private static void moveWithoutLoan() {
        Twins.state("9 no loan", BoundsTest::fresh, d -> d.move(100000));
    }

    private static void moveWhenEnded() {
        EquityRelease one = after(BoundsTest::running);
        one.end(0);
        Checks.due("9 while one life has not ended", one.move(200000), 0);
        Twins.state("9 ended", BoundsTest::ended, d -> d.move(100000));
        Twins.state("9 ended, much to pay", BoundsTest::ended, d -> d.move(0));
    }

    private static void moveAfterForty() {
        EquityRelease paid39 = new EquityRelease();
        paid39.setRate(0);
        paid39.begin(100000, 90, 0, 1000);
        for (int i = 0; i < 39; i++) {
            paid39.pay(1);
        }
        Checks.due("9 the 40th time", paid39.move(1000), 411);
        Checks.throwsState("9 40 times with the move", () -> paid39.move(1000));
        Checks.due("17 after 40 times", paid39.debt(), 550);
        Checks.due("18 after 40 times", paid39.debtAnew(), 550);
        Twins.state("9 40 times", BoundsTest::paidFortyTimes, d -> d.move(0));
        Twins.state("9 40 times, nothing to pay", BoundsTest::paidFortyTimes, d -> d.move(10000000));
    }

    // ---- promise 16

    private static void balanceOfNoDrawing() {
        EquityRelease two = after(BoundsTest::running);
        Checks.due("16 the first", two.balance(0), 10452);
        Checks.due("16 the last", two.balance(1), 2015);
        int[] none = {-1, 2, 19, 20, Integer.MIN_VALUE, Integer.MAX_VALUE};
        for (int drawing : none) {
            Twins.index("16 drawing " + drawing, BoundsTest::running, d -> d.balance(drawing));
        }
        Twins.index("16 without a loan", BoundsTest::fresh, d -> d.balance(0));
        Twins.index("16 a first one of 0 is none", d -> d.begin(1000, 60, 0, 0), d -> d.balance(0));
        Checks.due("16 the 20th", after(BoundsTest::drawnTwentyTimes).balance(19), 1000);
        Twins.index("16 the 21st", BoundsTest::drawnTwentyTimes, d -> d.balance(20));
        Checks.due("16 also when ended", after(BoundsTest::ended).balance(1), 2025);
    }

    // ---- promise 22

    private static void chargeAmount() {
        EquityRelease desk = new EquityRelease();
        desk.begin(1000, 60, 0, 9);
        Checks.due("22 amount 1", desk.charge(1), 0);
        Checks.due("22 amount 10000000", desk.charge(10000000), 1000000);
        argument("22 amount 0", d -> d.charge(0));
        argument("22 amount -1", d -> d.charge(-1));
        argument("22 amount 10000001", d -> d.charge(10000001));
        argument("22 amount least int", d -> d.charge(Integer.MIN_VALUE));
        argument("22 amount greatest int", d -> d.charge(Integer.MAX_VALUE));
    }

    private static void chargeWithoutLoan() {
        Twins.state("22 no loan", BoundsTest::fresh, d -> d.charge(1));
    }

    private static void chargeWhenEnded() {
        EquityRelease one = after(BoundsTest::running);
        one.end(0);
        Checks.due("22 while one life has not ended", one.charge(10000000), 0);
        Twins.state("22 ended", BoundsTest::ended, d -> d.charge(1));
    }

    /** The document refuses a charge neither above the debt nor after 40 payments. */
    private static void chargeIsNotRefusedOtherwise() {
        EquityRelease none = new EquityRelease();
        none.begin(1000, 60, 0, 0);
        Checks.due("22 no debt", none.charge(10), 1);
        EquityRelease paid = after(BoundsTest::paidFortyTimes);
        Checks.due("22 after 40 payments", paid.charge(60), 0);
        Checks.due("22 after 40 payments, above the tenth", paid.charge(70), 1);
    }
}
