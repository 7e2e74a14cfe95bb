/** A desk for money lent on a house for life; shared/DOC.md numbers what it promises. */
public final class EquityRelease {
    private static final int YEAR_DAYS = 365;
    private static final int LAST_DAY = 15000;
    private static final int LONGEST_PASS = 3650;

    private static final int FIRST_RATE = 500;
    private static final int HIGHEST_RATE = 2000;
    // A rate is told in hundredths of a percent for a year of 365 days.
    private static final long RATE_DIVISOR = 3650000L;
    private static final long BALANCE_PARTS = 10000L;

    private static final int GREATEST_AMOUNT = 10000000;
    private static final int LEAST_WORTH_TO_BEGIN = 1000;

    private static final int MOST_LIVES = 2;
    private static final int LEAST_AGE = 55;
    private static final int GREATEST_AGE = 95;
    private static final int NO_AGE = -1;
    private static final int NOT_ENDED = -1;

    private static final int LEAST_SHARE = 20;
    private static final int GREATEST_SHARE = 55;
    private static final int FIRST_CHARGE_PERCENT = 10;
    private static final int WAIVED_DAYS = 1095;

    private static final int MOST_DRAWINGS = 20;
    private static final int MOST_PAYMENTS = 40;

    private int today;
    private int rateNow;

    // No life is told ahead of the loan, so a loan was begun if there is one.
    private int lifeCount;
    private final int[] firstAges;
    private final int[] endDays;

    private int beginDay;
    private int houseWorth;
    private int roomLeft;

    private int drawingCount;
    private final int[] drawnAmounts;
    private final int[] drawnDays;
    private final int[] drawnRates;
    private final long[] balances;

    private int paymentCount;
    private final int[] paidDays;
    // What counts against the tenth of a year: a move's payment stands here as 0.
    private final int[] paidByTenth;
    // What each payment took from each drawing: MOST_PAYMENTS places for every drawing.
    private final long[] takenParts;

    public EquityRelease() {
        rateNow = FIRST_RATE;
        firstAges = new int[MOST_LIVES];
        endDays = new int[MOST_LIVES];
        drawnAmounts = new int[MOST_DRAWINGS];
        drawnDays = new int[MOST_DRAWINGS];
        drawnRates = new int[MOST_DRAWINGS];
        balances = new long[MOST_DRAWINGS];
        paidDays = new int[MOST_PAYMENTS];
        paidByTenth = new int[MOST_PAYMENTS];
        takenParts = new long[MOST_DRAWINGS * MOST_PAYMENTS];
    }

    // ---- the loan

    public int begin(int worth, int first, int second, int amount)
            throws IllegalArgumentException, IllegalStateException {
        requireWithin(worth, LEAST_WORTH_TO_BEGIN, GREATEST_AMOUNT);
        requireWithin(first, LEAST_AGE, GREATEST_AGE);
        if (second != 0) {
            requireWithin(second, LEAST_AGE, GREATEST_AGE);
        }
        requireWithin(amount, 0, GREATEST_AMOUNT);
        int least = second == 0 ? first : Math.min(first, second);
        int greatest = greatestLoan(worth, least + today / YEAR_DAYS);
        if (isBegun() || amount > greatest) {
            throw new IllegalStateException("a loan was begun, or the amount is above the greatest loan");
        }
        addLife(first);
        if (second != 0) {
            addLife(second);
        }
        beginDay = today;
        houseWorth = worth;
        roomLeft = greatest;
        if (amount > 0) {
            addDrawing(amount);
        }
        return roomLeft;
    }

    public int setRate(int rate) throws IllegalArgumentException {
        requireWithin(rate, 0, HIGHEST_RATE);
        int before = rateNow;
        rateNow = rate;
        return before;
    }

    public int draw(int amount) throws IllegalArgumentException, IllegalStateException {
        requireWithin(amount, 1, GREATEST_AMOUNT);
        requireRunning();
        if (amount > roomLeft || drawingCount >= MOST_DRAWINGS) {
            throw new IllegalStateException("the amount is above the room, or there are too many drawings");
        }
        addDrawing(amount);
        return roomLeft;
    }

    public int pay(int amount) throws IllegalArgumentException, IllegalStateException {
        requireWithin(amount, 1, GREATEST_AMOUNT);
        requireRunning();
        if (amount > debt() || paymentCount >= MOST_PAYMENTS) {
            throw new IllegalStateException("the amount is above the debt, or there are too many payments");
        }
        int charged = chargeFor(amount);
        takeBack(amount, amount);
        return charged;
    }

    public int pass(int days) throws IllegalArgumentException, IllegalStateException {
        requireWithin(days, 1, LONGEST_PASS);
        if (days > LAST_DAY - today) {
            throw new IllegalStateException("the day would be above the last one");
        }
        today += days;
        if (!hasEnded()) {
            for (int i = 0; i < drawingCount; i++) {
                balances[i] = rolledUp(balances[i], drawnRates[i], days);
            }
        }
        return today;
    }

    public int end(int life) throws IndexOutOfBoundsException, IllegalStateException {
        if (life < 0 || life >= lifeCount) {
            throw new IndexOutOfBoundsException("there is no such life");
        }
        if (endDays[life] != NOT_ENDED) {
            throw new IllegalStateException("the life has ended");
        }
        endDays[life] = today;
        return livesLeft();
    }

    public int value(int worth) throws IllegalArgumentException, IllegalStateException {
        requireWithin(worth, 0, GREATEST_AMOUNT);
        if (!isBegun()) {
            throw new IllegalStateException("there is no loan");
        }
        int before = houseWorth;
        houseWorth = worth;
        return before;
    }

    public long move(int worth) throws IllegalArgumentException, IllegalStateException {
        requireWithin(worth, 0, GREATEST_AMOUNT);
        requireRunning();
        if (paymentCount >= MOST_PAYMENTS) {
            throw new IllegalStateException("there are too many payments");
        }
        int greatest = greatestLoan(worth, age());
        long paid = Math.max(0L, debt() - greatest);
        if (paid > 0) {
            takeBack(paid, 0);
        }
        houseWorth = worth;
        roomLeft = (int) Math.max(0L, greatest - debt());
        return paid;
    }

    // ---- what there is; nothing from here on changes anything

    public int day() {
        return today;
    }

    public boolean hasEnded() {
        return isBegun() && livesLeft() == 0;
    }

    public int age() {
        int least = NO_AGE;
        for (int i = 0; i < lifeCount; i++) {
            if (endDays[i] == NOT_ENDED && (least == NO_AGE || firstAges[i] < least)) {
                least = firstAges[i];
            }
        }
        return least == NO_AGE ? NO_AGE : least + today / YEAR_DAYS;
    }

    public int worth() {
        return houseWorth;
    }

    public int room() {
        return roomLeft;
    }

    public int drawings() {
        return drawingCount;
    }

    public long balance(int drawing) throws IndexOutOfBoundsException {
        if (drawing < 0 || drawing >= drawingCount) {
            throw new IndexOutOfBoundsException("there is no such drawing");
        }
        return wholeAmount(balances[drawing]);
    }

    public long debt() {
        long sum = 0;
        for (int i = 0; i < drawingCount; i++) {
            sum += balances[i];
        }
        return wholeAmount(sum);
    }

    public long debtAnew() {
        long sum = 0;
        for (int i = 0; i < drawingCount; i++) {
            sum += balanceAnew(i);
        }
        return wholeAmount(sum);
    }

    public long owed() {
        return Math.min(debt(), houseWorth);
    }

    public long spared() {
        return debt() - owed();
    }

    public int allowance() {
        int drawn = 0;
        for (int i = 0; i < drawingCount; i++) {
            drawn += drawnAmounts[i];
        }
        return Math.max(0, drawn / 10 - paidThisYear());
    }

    public int charge(int amount) throws IllegalArgumentException, IllegalStateException {
        requireWithin(amount, 1, GREATEST_AMOUNT);
        requireRunning();
        return chargeFor(amount);
    }

    // ---- what the calls above share

    private static void requireWithin(int number, int least, int greatest) {
        if (number < least || number > greatest) {
            throw new IllegalArgumentException("a number is out of range");
        }
    }

    private void requireRunning() {
        if (!isBegun() || hasEnded()) {
            throw new IllegalStateException("there is no loan, or it has ended");
        }
    }

    private boolean isBegun() {
        return lifeCount > 0;
    }

    private int livesLeft() {
        int left = 0;
        for (int i = 0; i < lifeCount; i++) {
            if (endDays[i] == NOT_ENDED) {
                left++;
            }
        }
        return left;
    }

    private int lastEndDay() {
        int last = NOT_ENDED;
        for (int i = 0; i < lifeCount; i++) {
            last = Math.max(last, endDays[i]);
        }
        return last;
    }

    private void addLife(int firstAge) {
        if (lifeCount < MOST_LIVES) {
            firstAges[lifeCount] = firstAge;
            endDays[lifeCount] = NOT_ENDED;
            lifeCount++;
        }
    }

    private void addDrawing(int amount) {
        if (drawingCount < MOST_DRAWINGS) {
            drawnAmounts[drawingCount] = amount;
            drawnDays[drawingCount] = today;
            drawnRates[drawingCount] = rateNow;
            balances[drawingCount] = amount * BALANCE_PARTS;
            drawingCount++;
            roomLeft -= amount;
        }
    }

    private void takeBack(long amount, int byTenth) {
        if (paymentCount < MOST_PAYMENTS) {
            // The debt is rounded up, so the balances can hold a little less than the amount.
            long left = amount * BALANCE_PARTS;
            for (int i = 0; i < drawingCount; i++) {
                long part = Math.min(left, balances[i]);
                balances[i] -= part;
                left -= part;
                takenParts[i * MOST_PAYMENTS + paymentCount] = part;
            }
            paidDays[paymentCount] = today;
            paidByTenth[paymentCount] = byTenth;
            paymentCount++;
        }
    }

    private static int greatestLoan(int worth, int age) {
        int share = Math.min(GREATEST_SHARE, LEAST_SHARE + age - LEAST_AGE);
        return worth * share / 100;
    }

    private static long rolledUp(long balance, int rate, int days) {
        long rolled = balance;
        for (int i = 0; i < days; i++) {
            long interest = rolled * rate / RATE_DIVISOR;
            // A day that adds nothing leaves the next one to add nothing too.
            if (interest == 0) {
                break;
            }
            rolled += interest;
        }
        return rolled;
    }

    private long balanceAnew(int drawing) {
        long rolled = drawnAmounts[drawing] * BALANCE_PARTS;
        int reached = drawnDays[drawing];
        for (int i = 0; i < paymentCount; i++) {
            long part = takenParts[drawing * MOST_PAYMENTS + i];
            // A payment that took nothing may be older than the drawing.
            if (part > 0) {
                rolled = rolledUp(rolled, drawnRates[drawing], paidDays[i] - reached) - part;
                reached = paidDays[i];
            }
        }
        int lastDay = hasEnded() ? lastEndDay() : today;
        return rolledUp(rolled, drawnRates[drawing], lastDay - reached);
    }

    private static long wholeAmount(long parts) {
        return (parts + BALANCE_PARTS - 1) / BALANCE_PARTS;
    }

    private int yearOfLoan(int day) {
        return (day - beginDay) / YEAR_DAYS;
    }

    private int paidThisYear() {
        int paid = 0;
        for (int i = 0; i < paymentCount; i++) {
            if (yearOfLoan(paidDays[i]) == yearOfLoan(today)) {
                paid += paidByTenth[i];
            }
        }
        return paid;
    }

    private boolean isWaived() {
        int last = lastEndDay();
        return last != NOT_ENDED && today - last <= WAIVED_DAYS;
    }

    private int chargeFor(int amount) {
        if (isWaived()) {
            return 0;
        }
        int above = Math.max(0, amount - allowance());
        int percent = Math.max(0, FIRST_CHARGE_PERCENT - yearOfLoan(today));
        return above * percent / 100;
    }
}
