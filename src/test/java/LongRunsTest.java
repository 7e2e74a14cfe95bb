/** Long runs of calls, always the same ones, each answer compared with the model's. */
public final class LongRunsTest {
    private static final int RUNS = 400;
    private static final int CALLS = 512;
    private static final int[] ODD_NUMBERS = {
        Integer.MIN_VALUE, -1, 0, 1, 2, 20, 54, 95, 96, 2001, 3651, 9999999, 10000000, 10000001, Integer.MAX_VALUE
    };

    private final EquityRelease desk = new EquityRelease();
    private final Model model = new Model();
    private final int longestPass;
    private final boolean livesEnd;
    private final boolean moves;
    private final boolean paysOften;
    private long state;

    private LongRunsTest(int run) {
        state = run * 7919L + 13;
        longestPass = new int[] {3, 30, 120, 800, 3650}[run % 5];
        livesEnd = run % 3 != 0;
        moves = run % 4 < 2;
        paysOften = run % 7 < 3;
    }

    public static void main(String[] args) {
        int drawnOut = 0;
        int paidOut = 0;
        int ended = 0;
        int spared = 0;
        for (int run = 0; run < RUNS; run++) {
            LongRunsTest test = new LongRunsTest(run);
            for (int call = 0; call < CALLS; call++) {
                test.step(run, call);
            }
            drawnOut += test.model.drawings() == 20 ? 1 : 0;
            ended += test.model.hasEnded() == 1 ? 1 : 0;
            spared += test.model.spared() > 0 ? 1 : 0;
            paidOut += test.model.age() > 0 && Model.STATE.equals(test.model.move(0)) ? 1 : 0;
        }
        System.out.println("runs with 20 drawings " + drawnOut + ", 40 payments " + paidOut
                + ", an end " + ended + ", something spared " + spared);
        Checks.due("the runs reach the limits", drawnOut > 0 && paidOut > 0 && ended > 0 && spared > 0, true);
        Checks.finish("LongRunsTest");
    }

    /** A fixed sequence (Knuth's MMIX numbers), so that each run is the same each time. */
    private int upTo(int greatest) {
        state = state * 6364136223846793005L + 1442695040888963407L;
        return (int) ((state >>> 33) % (greatest + 1L));
    }

    private int between(int least, int greatest) {
        return least + upTo(greatest - least);
    }

    private int near(long number) {
        int capped = (int) Math.min(number, 11000000);
        switch (upTo(5)) {
            case 0: return upTo(3) == 0 ? capped : 1 + capped / 2;
            case 1: return capped + 1;
            case 2: return oddOr(1);
            case 3: return 1 + upTo(capped / 10 + 1);
            default: return 1 + upTo(capped / 40 + 1);
        }
    }

    private int oddOr(int number) {
        return upTo(15) == 0 ? ODD_NUMBERS[upTo(ODD_NUMBERS.length - 1)] : number;
    }

    private int kindOf(int call) {
        if (call < 6) {
            return upTo(2);
        }
        int kind = paysOften && upTo(3) == 0 ? between(4, 9) : upTo(32);
        return kind == 12 && !moves && upTo(9) != 0 ? 32 : kind;
    }

    private void step(int run, int call) {
        int kind = kindOf(call);
        int number = numberFor(kind);
        String name = "run " + run + ", call " + call + ", kind " + kind + ", number " + number;
        if (kind == 0) {
            begin(name);
            return;
        }
        compare(name, answer(kind, number), due(kind, number));
    }

    private void begin(String name) {
        int worth = oddOr(between(1000, upTo(1) == 0 ? 10000000 : 300000));
        int first = oddOr(between(55, 95));
        int second = oddOr(upTo(1) == 0 ? 0 : between(55, 95));
        int amount = oddOr(upTo(Math.max(0, Math.min(worth, 10000000)) / 3));
        Object want = model.begin(worth, first, second, amount);
        Object got;
        try {
            got = (long) desk.begin(worth, first, second, amount);
        } catch (RuntimeException e) {
            got = "throws " + e.getClass().getSimpleName();
        }
        compare(name + " begin(" + worth + ", " + first + ", " + second + ", " + amount + ")", got, want);
    }

    private int numberFor(int kind) {
        switch (kind) {
            case 1: return oddOr(upTo(2000));
            case 2: case 3: return oddOr(between(1, longestPass));
            case 4: case 5: return near(model.room());
            case 6: case 7: case 8: case 9: return near(model.debt());
            case 10: return livesEnd && upTo(7) == 0 ? upTo(1) : upTo(1) == 0 ? 2 : -1;
            case 11: return oddOr(upTo(1) == 0 ? upTo(10000000) : (int) Math.min(model.debt(), 10000000));
            case 12: return oddOr(upTo(1) == 0 ? upTo(10000000) : upTo(200000));
            case 13: case 14: return oddOr(upTo(upTo(1) == 0 ? 10000000 : (int) model.allowance() + 100));
            case 15: case 16: return oddOr(between(-1, (int) model.drawings()));
            default: return 0;
        }
    }

    private Object answer(int kind, int number) {
        try {
            switch (kind) {
                case 1: return (long) desk.setRate(number);
                case 2: case 3: return (long) desk.pass(number);
                case 4: case 5: return (long) desk.draw(number);
                case 6: case 7: case 8: case 9: return (long) desk.pay(number);
                case 10: return (long) desk.end(number);
                case 11: return (long) desk.value(number);
                case 12: return desk.move(number);
                case 13: case 14: return (long) desk.charge(number);
                case 15: case 16: return desk.balance(number);
                case 17: case 18: return (long) desk.day();
                case 19: return desk.hasEnded() ? 1L : 0L;
                case 20: return (long) desk.age();
                case 21: return (long) desk.worth();
                case 22: case 23: return (long) desk.room();
                case 24: return (long) desk.drawings();
                case 25: case 26: return (long) desk.allowance();
                case 27: return desk.owed();
                case 28: return desk.spared();
                case 29: case 30: case 31: return desk.debtAnew();
                default: return desk.debt();
            }
        } catch (RuntimeException e) {
            return "throws " + e.getClass().getSimpleName();
        }
    }

    private Object due(int kind, int number) {
        switch (kind) {
            case 1: return model.setRate(number);
            case 2: case 3: return model.pass(number);
            case 4: case 5: return model.draw(number);
            case 6: case 7: case 8: case 9: return model.pay(number);
            case 10: return model.end(number);
            case 11: return model.value(number);
            case 12: return model.move(number);
            case 13: case 14: return model.charge(number);
            case 15: case 16: return model.balance(number);
            case 17: case 18: return model.day();
            case 19: return model.hasEnded();
            case 20: return model.age();
            case 21: return model.worth();
            case 22: case 23: return model.room();
            case 24: return model.drawings();
            case 25: case 26: return model.allowance();
            case 27: return model.owed();
            case 28: return model.spared();
            default: return model.debt();
        }
    }

    private static void compare(String name, Object got, Object want) {
        boolean same = got.equals(want);
        if (!same) {
            System.out.println(name + " answered " + got + ", due is " + want);
        }
        Checks.due(name, same, true);
    }
}
