import java.math.BigInteger;
import java.util.ArrayList;
import java.util.List;
import java.util.TreeMap;

/**
 * The document once more, told from a diary of what happened and with numbers that cannot overflow.
 * An answer is a number, or a text "throws X"; LongRunsTest compares it with the class's answer.
 */
final class Model {
    static final String ARGUMENT = "throws IllegalArgumentException";
    static final String STATE = "throws IllegalStateException";
    static final String INDEX = "throws IndexOutOfBoundsException";

    private static final BigInteger PARTS = BigInteger.valueOf(10000);

    private static final class Life {
        int age;
        int ended = -1;
    }

    private static final class Drawing {
        int amount;
        BigInteger rate;
        BigInteger balance;
    }

    private final List<Life> lives = new ArrayList<>();
    private final List<Drawing> drawings = new ArrayList<>();
    private final TreeMap<Integer, Long> paidByYear = new TreeMap<>();
    private int today = 0;
    private int rate = 500;
    private int beginDay;
    private int worth;
    private int greatest;
    private long usedOfGreatest;
    private int payments;

    private static boolean out(int number, int least, int most) {
        return number < least || number > most;
    }

    private boolean running() {
        return lives.stream().anyMatch(life -> life.ended < 0);
    }

    Object begin(int house, int first, int second, int amount) {
        if (out(house, 1000, 10000000) || out(first, 55, 95) || second != 0 && out(second, 55, 95)
                || out(amount, 0, 10000000)) {
            return ARGUMENT;
        }
        int least = second != 0 && second < first ? second : first;
        int most = loanFor(house, least + today / 365);
        if (!lives.isEmpty() || amount > most) {
            return STATE;
        }
        for (int age : second == 0 ? new int[] {first} : new int[] {first, second}) {
            Life life = new Life();
            life.age = age;
            lives.add(life);
        }
        beginDay = today;
        worth = house;
        greatest = most;
        if (amount > 0) {
            addDrawing(amount);
        }
        return room();
    }

    private static int loanFor(int house, int age) {
        int share = 20;
        for (int year = 56; year <= age && share < 55; year++) {
            share++;
        }
        return (int) ((long) house * share / 100);
    }

    private void addDrawing(int amount) {
        Drawing drawing = new Drawing();
        drawing.amount = amount;
        drawing.rate = BigInteger.valueOf(rate);
        drawing.balance = BigInteger.valueOf(amount).multiply(PARTS);
        drawings.add(drawing);
        usedOfGreatest += amount;
    }

    Object setRate(int next) {
        if (out(next, 0, 2000)) {
            return ARGUMENT;
        }
        long before = rate;
        rate = next;
        return before;
    }

    Object draw(int amount) {
        if (out(amount, 1, 10000000)) {
            return ARGUMENT;
        }
        if (!running() || amount > room() || drawings.size() == 20) {
            return STATE;
        }
        addDrawing(amount);
        return room();
    }

    Object pay(int amount) {
        if (out(amount, 1, 10000000)) {
            return ARGUMENT;
        }
        if (!running() || amount > debt() || payments == 40) {
            return STATE;
        }
        Object charge = charge(amount);
        paidByYear.merge((today - beginDay) / 365, (long) amount, Long::sum);
        take(amount);
        return charge;
    }

    private void take(long amount) {
        BigInteger left = BigInteger.valueOf(amount).multiply(PARTS);
        for (Drawing drawing : drawings) {
            BigInteger part = left.min(drawing.balance);
            drawing.balance = drawing.balance.subtract(part);
            left = left.subtract(part);
        }
        payments++;
    }

    Object pass(int days) {
        if (out(days, 1, 3650)) {
            return ARGUMENT;
        }
        if (today + days > 15000) {
            return STATE;
        }
        for (int i = 0; i < days; i++) {
            today++;
            if (!running()) {
                continue;
            }
            for (Drawing drawing : drawings) {
                drawing.balance = drawing.balance.add(
                        drawing.balance.multiply(drawing.rate).divide(BigInteger.valueOf(3650000)));
            }
        }
        return (long) today;
    }

    Object end(int life) {
        if (out(life, 0, lives.size() - 1)) {
            return INDEX;
        }
        if (lives.get(life).ended >= 0) {
            return STATE;
        }
        lives.get(life).ended = today;
        return lives.stream().filter(other -> other.ended < 0).count();
    }

    Object value(int house) {
        if (out(house, 0, 10000000)) {
            return ARGUMENT;
        }
        if (lives.isEmpty()) {
            return STATE;
        }
        long before = worth;
        worth = house;
        return before;
    }

    Object move(int house) {
        if (out(house, 0, 10000000)) {
            return ARGUMENT;
        }
        if (!running() || payments == 40) {
            return STATE;
        }
        worth = house;
        greatest = loanFor(house, (int) age());
        long paid = debt() - greatest;
        if (paid > 0) {
            take(paid);
        }
        usedOfGreatest = debt();
        return paid > 0 ? paid : 0L;
    }

    long day() {
        return today;
    }

    long hasEnded() {
        return !lives.isEmpty() && !running() ? 1 : 0;
    }

    long age() {
        return lives.stream().filter(life -> life.ended < 0).mapToInt(life -> life.age + today / 365).min().orElse(-1);
    }

    long worth() {
        return worth;
    }

    long room() {
        return greatest > usedOfGreatest ? greatest - usedOfGreatest : 0;
    }

    long drawings() {
        return drawings.size();
    }

    Object balance(int drawing) {
        return out(drawing, 0, drawings.size() - 1) ? INDEX : (Object) whole(drawings.get(drawing).balance);
    }

    private static long whole(BigInteger parts) {
        BigInteger[] both = parts.divideAndRemainder(PARTS);
        return both[0].longValueExact() + (both[1].signum() > 0 ? 1 : 0);
    }

    long debt() {
        return whole(drawings.stream().map(drawing -> drawing.balance).reduce(BigInteger.ZERO, BigInteger::add));
    }

    long owed() {
        return debt() > worth ? worth : debt();
    }

    long spared() {
        return debt() > worth ? debt() - worth : 0;
    }

    long allowance() {
        long tenth = drawings.stream().mapToLong(drawing -> drawing.amount).sum() / 10;
        long paid = paidByYear.getOrDefault((today - beginDay) / 365, 0L);
        return tenth > paid ? tenth - paid : 0;
    }

    Object charge(int amount) {
        if (out(amount, 1, 10000000)) {
            return ARGUMENT;
        }
        if (!running()) {
            return STATE;
        }
        for (Life life : lives) {
            if (life.ended >= 0 && today <= life.ended + 1095) {
                return 0L;
            }
        }
        int years = (today - beginDay) / 365;
        long above = amount - allowance();
        return years >= 10 || above <= 0 ? 0L : above * (10 - years) / 100;
    }
}
