/** Promises 1 to 9: what the calls that change something do; BoundsTest tells what they refuse. */
public final class LoanTest {
    public static void main(String[] args) {
        newObject();
        beginShares();
        beginLater();
        rates();
        rateOfEachDrawing();
        drawRoom();
        payCharges();
        payInOrder();
        payRoundedUp();
        chargeGoesDownByYears();
        waivedOnDeath();
        interestDayByDay();
        endLives();
        endStopsInterest();
        valuations();
        moveRoom();
        movePaysBack();
        moveIsLeftAsideInTheYear();
        moveByAgeOfTheDay();
        Checks.finish("LoanTest");
    }

    private static void newObject() {
        EquityRelease desk = new EquityRelease();
        Checks.due("1 day of a new object", desk.day(), 0);
        Checks.due("1 rate of a new object", desk.setRate(7), 500);
        Checks.due("1 age without a loan", desk.age(), -1);
        Checks.due("1 drawings without a loan", desk.drawings(), 0);
        Checks.due("1 debt without a loan", desk.debt(), 0);
        Checks.due("1 no loan has ended", desk.hasEnded(), false);
    }

    private static int roomFor(int worth, int first, int second) {
        return new EquityRelease().begin(worth, first, second, 0);
    }

    private static void beginShares() {
        Checks.due("2 share at 55", roomFor(100000, 55, 0), 20000);
        Checks.due("2 share at 56", roomFor(100000, 56, 0), 21000);
        Checks.due("2 share at 89", roomFor(100000, 89, 0), 54000);
        Checks.due("2 share at 90", roomFor(100000, 90, 0), 55000);
        Checks.due("2 share at 91", roomFor(100000, 91, 0), 55000);
        Checks.due("2 share at 95", roomFor(100000, 95, 95), 55000);
        Checks.due("2 the second is younger", roomFor(100000, 80, 60), 25000);
        Checks.due("2 the first is younger", roomFor(100000, 60, 80), 25000);
        Checks.due("2 greatest loan rounded down", roomFor(1999, 55, 0), 399);
        Checks.due("2 greatest worth", roomFor(10000000, 95, 0), 5500000);
        Checks.throwsState("2 above the greatest loan", () -> new EquityRelease().begin(1999, 55, 0, 400));
        Checks.due("2 the whole greatest loan", new EquityRelease().begin(1999, 55, 0, 399), 0);
        Checks.due("2 a part of it", new EquityRelease().begin(1999, 55, 0, 99), 300);
    }

    private static void beginLater() {
        EquityRelease desk = new EquityRelease();
        desk.pass(729);
        Checks.throwsState("2 one year older only", () -> desk.begin(100000, 60, 0, 26001));
        desk.pass(1);
        Checks.due("2 two years older", desk.begin(100000, 60, 0, 0), 27000);
        Checks.due("12 two years older", desk.age(), 62);
    }

    private static void rates() {
        EquityRelease desk = new EquityRelease();
        Checks.due("3 the rate at first", desk.setRate(0), 500);
        Checks.due("3 after 0", desk.setRate(2000), 0);
        Checks.due("3 after 2000", desk.setRate(1), 2000);
        desk.begin(1000, 60, 0, 0);
        desk.end(0);
        Checks.due("3 after the loan", desk.setRate(2), 1);
    }

    private static void rateOfEachDrawing() {
        EquityRelease desk = new EquityRelease();
        desk.setRate(2000);
        desk.begin(1000000, 90, 0, 10000);
        desk.setRate(0);
        desk.draw(10000);
        desk.setRate(1000);
        desk.draw(10000);
        desk.setRate(365);
        desk.pass(1);
        Checks.due("3 balance at 2000", desk.balance(0), 10006);
        Checks.due("3 balance at 0", desk.balance(1), 10000);
        Checks.due("3 balance at 1000", desk.balance(2), 10003);
        desk.pass(364);
        Checks.due("3 a year at 2000", desk.balance(0), 12214);
        Checks.due("3 a year at 0", desk.balance(1), 10000);
        Checks.due("3 a year at 1000", desk.balance(2), 11052);
        Checks.due("17 all in all", desk.debt(), 33265);
    }

    private static void drawRoom() {
        EquityRelease desk = new EquityRelease();
        desk.begin(100000, 55, 0, 0);
        Checks.due("15 nothing drawn at first", desk.drawings(), 0);
        Checks.due("4 the room then", desk.draw(1), 19999);
        Checks.due("4 the room then", desk.draw(9999), 10000);
        Checks.throwsState("4 above the room", () -> desk.draw(10001));
        desk.pay(5000);
        Checks.throwsState("4 what is paid back makes no room", () -> desk.draw(10001));
        desk.pass(3650);
        Checks.throwsState("4 nor does age", () -> desk.draw(10001));
        desk.value(10000000);
        Checks.throwsState("4 nor does a valuation", () -> desk.draw(10001));
        Checks.due("4 the whole room", desk.draw(10000), 0);
        Checks.throwsState("4 no room", () -> desk.draw(1));
        Checks.due("15 three drawings", desk.drawings(), 3);
    }

    private static void payCharges() {
        EquityRelease desk = new EquityRelease();
        desk.setRate(0);
        desk.begin(1000000, 90, 0, 10009);
        Checks.due("5 the tenth, rounded down, is free", desk.pay(1000), 0);
        Checks.due("5 10 percent, rounded down", desk.pay(19), 1);
        Checks.due("5 below one", desk.pay(9), 0);
        desk.draw(1001);
        Checks.due("5 the tenth of all that was drawn: 73 are free", desk.pay(173), 10);
        desk.pass(365);
        Checks.due("5 a new year: 1101 are free, 9 percent", desk.pay(1201), 9);
        Checks.due("17 what is left", desk.debt(), 8608);
        Checks.due("5 all of it", desk.pay(8608), 774);
        Checks.due("17 nothing is left", desk.debt(), 0);
    }

    private static void payInOrder() {
        EquityRelease desk = new EquityRelease();
        desk.setRate(0);
        desk.begin(1000000, 90, 0, 100);
        desk.draw(200);
        desk.draw(300);
        desk.pay(40);
        Checks.due("5 from the first", desk.balance(0), 60);
        desk.pay(100);
        Checks.due("5 the first is paid", desk.balance(0), 0);
        Checks.due("5 then from the second", desk.balance(1), 160);
        Checks.due("5 not yet from the third", desk.balance(2), 300);
        desk.pay(460);
        Checks.due("5 the third is paid", desk.balance(2), 0);
        Checks.due("15 drawings stay", desk.drawings(), 3);
        Checks.throwsIndex("16 there is no fourth", () -> desk.balance(3));
    }

    /** The debt is rounded up, so the last payment takes as much as there is. */
    private static void payRoundedUp() {
        EquityRelease desk = new EquityRelease();
        desk.begin(1000, 90, 0, 100);
        desk.pass(1);
        Checks.due("17 rounded up", desk.debt(), 101);
        Checks.throwsState("5 above the debt", () -> desk.pay(102));
        Checks.due("5 the whole debt", desk.pay(101), 9);
        Checks.due("17 nothing", desk.debt(), 0);
        desk.draw(50);
        Checks.due("17 nothing is carried over", desk.debt(), 50);
        Checks.due("18 nothing is carried over", desk.debtAnew(), 50);
    }

    private static void chargeGoesDownByYears() {
        EquityRelease desk = new EquityRelease();
        desk.setRate(0);
        desk.pass(100);
        desk.begin(1000000, 90, 0, 10000);
        desk.pass(364);
        Checks.due("5 the first year's last day", desk.charge(2000), 100);
        desk.pass(1);
        Checks.due("5 the second year's first day", desk.charge(2000), 90);
        for (int year = 2; year <= 12; year++) {
            desk.pass(365);
            Checks.due("5 in year " + year, desk.charge(2000), Math.max(0, 10 - year) * 10);
        }
        Checks.due("5 no charge after ten years", desk.pay(9000), 0);
        Checks.due("21 but it counts", desk.allowance(), 0);
    }

    private static void waivedOnDeath() {
        EquityRelease desk = new EquityRelease();
        desk.setRate(0);
        desk.begin(1000000, 60, 90, 100000);
        desk.pass(10);
        Checks.due("5 ahead of the death", desk.pay(11000), 100);
        desk.end(1);
        Checks.due("5 waived on the day", desk.pay(1000), 0);
        desk.pass(1095);
        Checks.due("5 waived on the last day", desk.pay(20000), 0);
        desk.pass(1);
        Checks.due("21 a waived payment counts", desk.allowance(), 0);
        Checks.due("5 waived no longer, 7 percent", desk.pay(1000), 70);
        desk.pass(364);
        Checks.due("21 the next year", desk.allowance(), 10000);
    }

    private static void interestDayByDay() {
        EquityRelease desk = new EquityRelease();
        desk.setRate(2000);
        desk.begin(10000000, 95, 0, 5500000);
        EquityRelease daily = new EquityRelease();
        daily.setRate(2000);
        daily.begin(10000000, 95, 0, 5500000);
        desk.pass(300);
        for (int i = 0; i < 300; i++) {
            daily.pass(1);
        }
        Checks.due("6 at once or by days", desk.debt(), daily.debt());
        // The greatest balance of all: 55000000000 parts, rolled up 15000 times.
        for (int i = 0; i < 4; i++) {
            desk.pass(3650);
        }
        desk.pass(100);
        Checks.due("6 for 15000 days", desk.debt(), greatestDebt());
        Checks.due("18 for 15000 days", desk.debtAnew(), greatestDebt());
        Checks.due("20 for 15000 days", desk.spared(), greatestDebt() - 10000000);
    }

    private static long greatestDebt() {
        java.math.BigInteger parts = java.math.BigInteger.valueOf(55000000000L);
        for (int i = 0; i < 15000; i++) {
            parts = parts.add(parts.multiply(java.math.BigInteger.valueOf(2000))
                    .divide(java.math.BigInteger.valueOf(3650000)));
        }
        return parts.add(java.math.BigInteger.valueOf(9999))
                .divide(java.math.BigInteger.valueOf(10000)).longValueExact();
    }

    private static void endLives() {
        EquityRelease desk = new EquityRelease();
        Checks.throwsIndex("7 no life ahead of the loan", () -> desk.end(0));
        desk.begin(1000, 60, 70, 0);
        Checks.throwsIndex("7 life -1", () -> desk.end(-1));
        Checks.throwsIndex("7 life 2", () -> desk.end(2));
        Checks.due("7 one is left", desk.end(0), 1);
        Checks.throwsState("7 ended already", () -> desk.end(0));
        Checks.due("11 not yet", desk.hasEnded(), false);
        Checks.due("12 the other's age", desk.age(), 70);
        Checks.due("7 none is left", desk.end(1), 0);
        Checks.due("11 ended", desk.hasEnded(), true);
        Checks.throwsState("7 ended already", () -> desk.end(1));
        EquityRelease single = new EquityRelease();
        single.begin(1000, 60, 0, 0);
        Checks.throwsIndex("7 there is no second life", () -> single.end(1));
        Checks.due("7 the only one", single.end(0), 0);
    }

    private static void endStopsInterest() {
        EquityRelease desk = new EquityRelease();
        desk.begin(100000, 60, 60, 10000);
        desk.end(0);
        desk.pass(365);
        Checks.due("7 interest for the life that is left", desk.debt(), 10513);
        desk.end(1);
        Checks.due("17 on the day of the end", desk.debt(), 10513);
        desk.pass(3650);
        Checks.due("17 no interest from then on", desk.debt(), 10513);
        Checks.due("18 no interest from then on", desk.debtAnew(), 10513);
        Checks.due("16 no interest from then on", desk.balance(0), 10513);
        Checks.due("6 days go by all the same", desk.day(), 4015);
    }

    private static void valuations() {
        EquityRelease desk = new EquityRelease();
        desk.begin(1000, 60, 0, 200);
        Checks.due("8 the worth before", desk.value(10000000), 1000);
        Checks.due("13 the worth now", desk.worth(), 10000000);
        Checks.due("14 the room stays", desk.room(), 50);
        Checks.due("8 the worth before", desk.value(0), 10000000);
        Checks.due("13 the worth now", desk.worth(), 0);
        desk.end(0);
        Checks.due("8 also when ended", desk.value(150), 0);
        Checks.due("19 the worth at most", desk.owed(), 150);
    }

    private static void moveRoom() {
        EquityRelease desk = new EquityRelease();
        desk.setRate(0);
        desk.begin(100000, 60, 0, 20000);
        desk.pay(15000);
        Checks.due("9 nothing has to be paid", desk.move(100000), 0);
        Checks.due("14 the greatest loan less the debt", desk.room(), 20000);
        Checks.due("17 the debt is carried", desk.debt(), 5000);
        Checks.due("9 the debt is just the greatest loan", desk.move(20000), 0);
        Checks.due("14 no room", desk.room(), 0);
        Checks.due("9 to a greater house", desk.move(10000000), 0);
        Checks.due("14 a great room", desk.room(), 2495000);
        Checks.due("4 what is drawn makes it less", desk.draw(5000), 2490000);
        Checks.due("13 the other house's worth", desk.worth(), 10000000);
    }

    private static void movePaysBack() {
        EquityRelease desk = new EquityRelease();
        desk.setRate(0);
        desk.begin(100000, 60, 0, 10000);
        desk.draw(10000);
        Checks.due("9 the difference", desk.move(19999), 15001);
        Checks.due("17 the greatest loan is left", desk.debt(), 4999);
        Checks.due("16 from the first", desk.balance(0), 0);
        Checks.due("16 from the second", desk.balance(1), 4999);
        Checks.due("14 no room", desk.room(), 0);
        Checks.due("18 the same anew", desk.debtAnew(), 4999);
        Checks.due("9 to no house", desk.move(0), 4999);
        Checks.due("17 no debt", desk.debt(), 0);
        Checks.due("13 no worth", desk.worth(), 0);
        EquityRelease byOne = new EquityRelease();
        byOne.setRate(0);
        byOne.begin(1000, 60, 0, 200);
        Checks.due("9 a difference of 1", byOne.move(799), 1);
        Checks.due("17 less 1", byOne.debt(), 199);
        EquityRelease rolled = new EquityRelease();
        rolled.setRate(2000);
        rolled.begin(10000000, 95, 0, 5500000);
        for (int i = 0; i < 4; i++) {
            rolled.pass(3650);
        }
        long debt = rolled.debt();
        Checks.due("9 more than an int holds", rolled.move(0), debt);
        Checks.due("9 it is more", debt > Integer.MAX_VALUE, true);
        Checks.due("18 nothing is left", rolled.debtAnew(), 0);
    }

    private static void moveIsLeftAsideInTheYear() {
        EquityRelease desk = new EquityRelease();
        desk.setRate(0);
        desk.begin(100000, 60, 0, 20000);
        desk.pay(500);
        desk.move(40000);
        Checks.due("17 after the move", desk.debt(), 10000);
        Checks.due("21 the move is left aside", desk.allowance(), 1500);
        Checks.due("5 the tenth of all that was drawn", desk.pay(1500), 0);
        Checks.due("5 above it", desk.pay(100), 10);
    }

    private static void moveByAgeOfTheDay() {
        EquityRelease desk = new EquityRelease();
        desk.begin(100000, 60, 70, 0);
        desk.pass(364);
        desk.move(100000);
        Checks.due("9 by the age 60", desk.room(), 25000);
        desk.pass(1);
        desk.move(100000);
        Checks.due("9 by the age 61", desk.room(), 26000);
        desk.end(0);
        Checks.due("14 the room stays on a death", desk.room(), 26000);
        desk.move(100000);
        Checks.due("9 by the age 71", desk.room(), 36000);
    }
}
