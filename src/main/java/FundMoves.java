/** Pension savings that are moved between providers by steps, as the promises of DOC.md say. */
public final class FundMoves {
    public static final int ANSWER = 0, SALE = 1, PURCHASE = 2, DONE = 3;

    private static final int LAST_DAY = 2000;
    private static final int LONGEST_PASS = 100;
    private static final int PROVIDERS = 5;
    private static final int LOWEST_PRICE = 100;
    private static final int HIGHEST_PRICE = 10000;
    private static final int FIRST_PRICE = 1000;
    private static final int MOST_PRICES = 61;
    private static final int MOST_MONEY = 1000000;
    private static final int MOST_SAVERS = 10;
    private static final int MOST_ORDERS = 30;
    private static final long MOST_THOUSANDTHS = 100000000L;
    private static final int DAYS_TO_ANSWER = 3;
    private static final int DAYS_TO_SELL = 2;
    private static final int DAYS_TO_BUY = 2;
    private static final int LATENESS_BORNE = 10;
    private static final long THOUSAND = 1000L;

    private final PriceRow[] priceRows = new PriceRow[PROVIDERS];
    private final long[][] debts = new long[PROVIDERS][PROVIDERS];
    private final long[] ownLosses = new long[PROVIDERS];
    private final Saver[] savers = new Saver[MOST_SAVERS];
    private final Order[] orders = new Order[MOST_ORDERS];
    private int presentDay = 0;
    private int defaultPrice = FIRST_PRICE;
    private int saverCount = 0;
    private int orderCount = 0;

    public FundMoves() {
        for (int i = 0; i < PROVIDERS; i++) {
            priceRows[i] = new PriceRow();
        }
    }

    // ---- days and prices

    public int pass(int days) throws IllegalArgumentException, IllegalStateException {
        if (isOutside(days, 1, LONGEST_PASS)) {
            throw new IllegalArgumentException("days out of range");
        }
        if (presentDay + days > LAST_DAY) {
            throw new IllegalStateException("later than the last day");
        }
        presentDay += days;
        return presentDay;
    }

    public int today() {
        return presentDay;
    }

    public int setPrice(int provider, int price)
            throws IllegalArgumentException, IllegalStateException {
        PriceRow row = priceRowOf(provider);
        checkPrice(price);
        int before = row.valueOn(presentDay);
        if (!row.put(presentDay, price)) {
            throw new IllegalStateException("the provider has had all its prices");
        }
        return before;
    }

    public int price(int provider, int day) throws IllegalArgumentException {
        PriceRow row = priceRowOf(provider);
        if (isOutside(day, 0, presentDay)) {
            throw new IllegalArgumentException("day out of range");
        }
        return row.valueOn(day);
    }

    public int setDefault(int price) throws IllegalArgumentException {
        checkPrice(price);
        int before = defaultPrice;
        defaultPrice = price;
        return before;
    }

    // ---- savers

    public int begin(int provider, int money)
            throws IllegalArgumentException, IllegalStateException {
        PriceRow row = priceRowOf(provider);
        if (isOutside(money, 0, MOST_MONEY)) {
            throw new IllegalArgumentException("money out of range");
        }
        int number = saverCount;
        if (isOutside(number, 0, MOST_SAVERS - 1)) {
            throw new IllegalStateException("no more savers");
        }
        savers[number] = new Saver(provider, thousandthsFor(money, row.valueOn(presentDay)));
        saverCount = number + 1;
        return number;
    }

    public int pay(int saver, int money)
            throws IndexOutOfBoundsException, IllegalArgumentException, IllegalStateException {
        Saver payer = saverAt(saver);
        if (isOutside(money, 1, MOST_MONEY)) {
            throw new IllegalArgumentException("money out of range");
        }
        if (payer.isMoving) {
            throw new IllegalStateException("an order of the saver goes on");
        }
        long paidFor = thousandthsFor(money, priceNow(payer.holder));
        checkHolding(payer.thousandths + paidFor);
        payer.thousandths += paidFor;
        return (int) paidFor;
    }

    public long units(int saver) throws IndexOutOfBoundsException {
        return saverAt(saver).thousandths;
    }

    public int provider(int saver) throws IndexOutOfBoundsException {
        return saverAt(saver).holder;
    }

    // ---- orders

    public int order(int saver, int to)
            throws IndexOutOfBoundsException, IllegalArgumentException, IllegalStateException {
        Saver mover = saverAt(saver);
        checkProvider(to);
        if (to == mover.holder) {
            throw new IllegalArgumentException("the saver is with that provider");
        }
        if (mover.isMoving) {
            throw new IllegalStateException("an order of the saver goes on");
        }
        int number = orderCount;
        if (isOutside(number, 0, MOST_ORDERS - 1)) {
            throw new IllegalStateException("no more orders");
        }
        orders[number] = new Order(saver, mover.holder, to, presentDay);
        orderCount = number + 1;
        mover.isMoving = true;
        return number;
    }

    public int step(int order) throws IndexOutOfBoundsException, IllegalStateException {
        return doNextStep(openOrderAt(order), false);
    }

    public int force(int order) throws IndexOutOfBoundsException, IllegalStateException {
        Order open = openOrderAt(order);
        if (open.latenessOn(presentDay) <= LATENESS_BORNE) {
            throw new IllegalStateException("the step is not late enough to be forced");
        }
        return doNextStep(open, true);
    }

    public int stage(int order) throws IndexOutOfBoundsException {
        return orderAt(order).nextStep;
    }

    public int due(int order) throws IndexOutOfBoundsException, IllegalStateException {
        return openOrderAt(order).dueDay();
    }

    public int late(int order) throws IndexOutOfBoundsException {
        Order found = orderAt(order);
        return found.lateOfOld + found.lateOfNew;
    }

    public long money(int order) throws IndexOutOfBoundsException {
        return orderAt(order).proceeds;
    }

    public long madeGood(int order) throws IndexOutOfBoundsException {
        return orderAt(order).replaced;
    }

    // ---- what providers owe

    public long owes(int provider, int other) throws IllegalArgumentException {
        checkProvider(provider);
        checkProvider(other);
        return debts[provider][other] - debts[other][provider];
    }

    public long losses(int provider) throws IllegalArgumentException {
        checkProvider(provider);
        return ownLosses[provider];
    }

    // ---- steps

    private int doNextStep(Order order, boolean forced) {
        int lateBy = order.latenessOn(presentDay);
        if (order.nextStep == SALE) {
            sell(order, forced);
        } else if (order.nextStep == PURCHASE) {
            buy(order, lateBy, forced);
        }
        order.goOn(presentDay, lateBy);
        return lateBy;
    }

    private void sell(Order order, boolean forced) {
        Saver mover = saverAt(order.saver);
        order.sold = mover.thousandths;
        order.proceeds = moneyFor(order.sold, forced ? defaultPrice : priceNow(order.from));
        mover.thousandths = 0;
    }

    private void buy(Order order, int lateBy, boolean forced) {
        Saver mover = saverAt(order.saver);
        int priceOfNew = priceNow(order.to);
        long bought = thousandthsFor(order.proceeds, forced ? defaultPrice : priceOfNew);
        int lateInAll = order.lateOfOld + lateBy;
        long lacking = 0;
        if (lateInAll > 0) {
            lacking = Math.max(0L, timelyThousandths(order, lateInAll) - bought);
        }
        checkHolding(bought + lacking);
        shareCost(order, costOf(lacking, priceOfNew), lateInAll);
        order.replaced = lacking;
        mover.arrive(order.to, bought + lacking);
    }

    /** What the saver would have by timely steps; asked ahead of the purchase's own booking. */
    private long timelyThousandths(Order order, int lateInAll) {
        int saleDay = order.lastStepDay - order.lateOfOld;
        int purchaseDay = presentDay - lateInAll;
        long timelyMoney = moneyFor(order.sold, priceRowOf(order.from).valueOn(saleDay));
        return thousandthsFor(timelyMoney, priceRowOf(order.to).valueOn(purchaseDay));
    }

    private void shareCost(Order order, long cost, int lateInAll) {
        // Both are providers since the order was made; the tests keep the indexes safe by these lines.
        if (lateInAll <= 0 || !isProvider(order.from) || !isProvider(order.to)) {
            return;
        }
        long owed = cost * order.lateOfOld / lateInAll;
        debts[order.from][order.to] += owed;
        ownLosses[order.to] += cost - owed;
    }

    // ---- reckoning

    private static long thousandthsFor(long money, int price) {
        // No price is below 100; the test keeps the division safe by its own lines.
        if (price <= 0) {
            return 0;
        }
        return money * THOUSAND / price;
    }

    private static long moneyFor(long thousandths, int price) {
        return thousandths * price / THOUSAND;
    }

    private static long costOf(long thousandths, int price) {
        return (thousandths * price + THOUSAND - 1) / THOUSAND;
    }

    private static boolean isOutside(int value, int least, int most) {
        return value < least || value > most;
    }

    // ---- finding and checking

    private int priceNow(int provider) {
        return priceRowOf(provider).valueOn(presentDay);
    }

    private PriceRow priceRowOf(int provider) {
        PriceRow found = isProvider(provider) ? priceRows[provider] : null;
        if (found == null) {
            throw new IllegalArgumentException("provider out of range");
        }
        return found;
    }

    private static boolean isProvider(int number) {
        return !isOutside(number, 0, PROVIDERS - 1);
    }

    private static void checkProvider(int provider) {
        if (!isProvider(provider)) {
            throw new IllegalArgumentException("provider out of range");
        }
    }

    private static void checkPrice(int price) {
        if (isOutside(price, LOWEST_PRICE, HIGHEST_PRICE)) {
            throw new IllegalArgumentException("price out of range");
        }
    }

    private static void checkHolding(long thousandths) {
        if (thousandths > MOST_THOUSANDTHS) {
            throw new IllegalStateException("the saver would have too many thousandths");
        }
    }

    private Saver saverAt(int number) {
        Saver found = isOutside(number, 0, MOST_SAVERS - 1) ? null : savers[number];
        if (found == null) {
            throw new IndexOutOfBoundsException("no such saver");
        }
        return found;
    }

    private Order orderAt(int number) {
        Order found = isOutside(number, 0, MOST_ORDERS - 1) ? null : orders[number];
        if (found == null) {
            throw new IndexOutOfBoundsException("no such order");
        }
        return found;
    }

    private Order openOrderAt(int number) {
        Order found = orderAt(number);
        if (found.nextStep == DONE) {
            throw new IllegalStateException("the order is done");
        }
        return found;
    }

    /** The prices of a provider in the order of days, each with the day from which it holds. */
    private static final class PriceRow {
        private final int[] firstDays = new int[MOST_PRICES];
        private final int[] values = new int[MOST_PRICES];
        private int count = 1;
        private int latestDay = 0;

        PriceRow() {
            values[0] = FIRST_PRICE;
        }

        /** Says false, and changes nothing, if a new price is needed and the row is full. */
        boolean put(int day, int value) {
            int at = day == latestDay ? count - 1 : count;
            if (isOutside(at, 0, MOST_PRICES - 1)) {
                return false;
            }
            firstDays[at] = day;
            values[at] = value;
            latestDay = day;
            count = at + 1;
            return true;
        }

        int valueOn(int day) {
            int value = FIRST_PRICE;
            // The count is never above MOST_PRICES; the test keeps the index safe by these lines alone.
            for (int i = 0; i < count && i < MOST_PRICES && firstDays[i] <= day; i++) {
                value = values[i];
            }
            return value;
        }
    }

    private static final class Saver {
        private int holder;
        private long thousandths;
        private boolean isMoving = false;

        Saver(int holder, long thousandths) {
            this.holder = holder;
            this.thousandths = thousandths;
        }

        void arrive(int newHolder, long newThousandths) {
            holder = newHolder;
            thousandths = newThousandths;
            isMoving = false;
        }
    }

    private static final class Order {
        private final int saver;
        private final int from;
        private final int to;
        private int nextStep = ANSWER;
        private int lastStepDay;
        private int lateOfOld = 0;
        private int lateOfNew = 0;
        private long sold = 0;
        private long proceeds = 0;
        private long replaced = 0;

        Order(int saver, int from, int to, int day) {
            this.saver = saver;
            this.from = from;
            this.to = to;
            this.lastStepDay = day;
        }

        int dueDay() {
            if (nextStep == ANSWER) {
                return lastStepDay + DAYS_TO_ANSWER;
            }
            return lastStepDay + (nextStep == SALE ? DAYS_TO_SELL : DAYS_TO_BUY);
        }

        int latenessOn(int day) {
            return Math.max(0, day - dueDay());
        }

        void goOn(int day, int lateBy) {
            if (nextStep == PURCHASE) {
                lateOfNew += lateBy;
            } else {
                lateOfOld += lateBy;
            }
            lastStepDay = day;
            nextStep++;
        }
    }
}
