/**
 * Two desks that the same calls have made: one gets the call that has to be refused, the other does
 * not. From then on both must answer alike, also what only later calls bring to light (the rate, how
 * often was drawn and paid back, who has ended when).
 */
final class Twins {
    interface Story {
        void tell(EquityRelease desk);
    }

    interface Call {
        long on(EquityRelease desk);
    }

    private Twins() {
    }

    static void argument(String what, Story story, Call call) {
        EquityRelease tried = after(story);
        Checks.throwsArgument(what, () -> call.on(tried));
        goOnAlike(what, tried, after(story));
    }

    static void state(String what, Story story, Call call) {
        EquityRelease tried = after(story);
        Checks.throwsState(what, () -> call.on(tried));
        goOnAlike(what, tried, after(story));
    }

    static void index(String what, Story story, Call call) {
        EquityRelease tried = after(story);
        Checks.throwsIndex(what, () -> call.on(tried));
        goOnAlike(what, tried, after(story));
    }

    private static EquityRelease after(Story story) {
        EquityRelease desk = new EquityRelease();
        story.tell(desk);
        return desk;
    }

    private static void goOnAlike(String what, EquityRelease tried, EquityRelease left) {
        String got = sequel(tried);
        String want = sequel(left);
        Checks.due(what + " changes nothing", got.equals(want), true);
        if (!got.equals(want)) {
            System.out.println("refused: " + got);
            System.out.println("left:    " + want);
        }
    }

    private static String sequel(EquityRelease desk) {
        StringBuilder told = new StringBuilder();
        read(told, desk);
        tell(told, desk, d -> d.setRate(1234));
        tell(told, desk, d -> d.begin(10000000, 60, 61, 5));
        tell(told, desk, d -> d.draw(1));
        tell(told, desk, d -> d.pay(1));
        tell(told, desk, d -> d.pass(1));
        read(told, desk);
        // What is left of the 20 drawings and the 40 payments is told by when they are refused.
        tell(told, desk, d -> d.move(10000000));
        for (int i = 0; i < 21; i++) {
            tell(told, desk, d -> d.draw(100));
        }
        for (int i = 0; i < 41; i++) {
            tell(told, desk, d -> d.pay(1));
        }
        read(told, desk);
        tell(told, desk, d -> d.pass(365));
        tell(told, desk, d -> d.end(1));
        tell(told, desk, d -> d.pass(365));
        read(told, desk);
        tell(told, desk, d -> d.pass(731));
        read(told, desk);
        tell(told, desk, d -> d.end(0));
        tell(told, desk, d -> d.value(50));
        tell(told, desk, d -> d.pass(1));
        read(told, desk);
        return told.toString();
    }

    private static void read(StringBuilder told, EquityRelease desk) {
        told.append(" [");
        tell(told, desk, d -> d.day());
        tell(told, desk, d -> d.hasEnded() ? 1 : 0);
        tell(told, desk, d -> d.age());
        tell(told, desk, d -> d.worth());
        tell(told, desk, d -> d.room());
        tell(told, desk, d -> d.drawings());
        for (int i = 0; i <= 20; i++) {
            int drawing = i;
            tell(told, desk, d -> d.balance(drawing));
        }
        tell(told, desk, d -> d.debt());
        tell(told, desk, d -> d.debtAnew());
        tell(told, desk, d -> d.owed());
        tell(told, desk, d -> d.spared());
        tell(told, desk, d -> d.allowance());
        tell(told, desk, d -> d.charge(1000));
        tell(told, desk, d -> d.charge(10000000));
        told.append(" ]");
    }

    private static void tell(StringBuilder told, EquityRelease desk, Call call) {
        told.append(' ');
        try {
            told.append(call.on(desk));
        } catch (RuntimeException e) {
            told.append(e.getClass().getSimpleName());
        }
    }
}
