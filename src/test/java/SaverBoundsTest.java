/** Promises 7 to 10, and what the terms say of savers: each sentence that names a bound. */
public final class SaverBoundsTest {
    private static final String MAX = "2147483647";
    private static final String MIN = "-2147483648";

    public static void main(String[] args) {
        saversBeginWithProvidersZeroToFour();
        saversBeginWithMoneyOfZeroToAMillion();
        thousandthsAreRoundedDown();
        saversBeginAtThePriceOfToday();
        thereAreAtMostTenSavers();
        refusedSaversTakeNoNumber();
        wrongArgumentsComeAheadOfTooManySavers();
        onlySaversThatAreCanPay();
        oneToAMillionIsPaid();
        paidIsAtThePriceOfToday();
        nothingIsPaidWhileAnOrderGoesOn();
        aSaverHasAtMost100000000();
        aPaymentThatGivesNothingFitsAlways();
        whichOfSeveralAPaymentThrows();
        unitsOfTheFirstAndTheLast();
        noUnitsFromTheSaleToThePurchase();
        providersOfTheFirstAndTheLast();
        theOldProviderUntilThePurchase();
        Check.end();
    }

    private static Run withTenSavers(String name) {
        Run run = new Run(name);
        for (int i = 0; i < 10; i++) {
            run.after("begin(" + i % 5 + ", " + 10 * i + ")");
        }
        return run;
    }

    /** "provider: 0 to 4". */
    private static void saversBeginWithProvidersZeroToFour() {
        new Run("begin with")
                .badArgument("begin(-1, 10)", "begin(5, 10)", "begin(" + MAX + ", 10)", "begin(" + MIN + ", 10)")
                .gives("begin(0, 10)", 0).gives("begin(4, 10)", 1)
                .gives("provider(0)", 0).gives("provider(1)", 4)
                .badArgument("begin(-1, 10)", "begin(5, 10)");
    }

    /** "money: 0 to 1000000". */
    private static void saversBeginWithMoneyOfZeroToAMillion() {
        new Run("begin by")
                .badArgument("begin(0, -1)", "begin(0, 1000001)", "begin(0, " + MAX + ")", "begin(0, " + MIN + ")")
                .badArgument("begin(5, -1)", "begin(-1, 1000001)")
                .gives("begin(0, 0)", 0).gives("units(0)", 0)
                .gives("begin(0, 1000000)", 1).gives("units(1)", 1000000)
                .after("setPrice(0, 100)").gives("begin(0, 1000000)", 2).gives("units(2)", 10000000)
                .badArgument("begin(0, -1)", "begin(0, 1000001)");
    }

    /** "as many thousandths as the money times 1000, divided by the price, rounded down". */
    private static void thousandthsAreRoundedDown() {
        new Run("rounded down")
                .after("setPrice(0, 10000)", "begin(0, 9)", "begin(0, 10)", "begin(0, 19)", "begin(0, 20)")
                .gives("units(0)", 0).gives("units(1)", 1).gives("units(2)", 1).gives("units(3)", 2)
                .gives("pay(0, 9)", 0).gives("units(0)", 0).gives("pay(0, 10)", 1).gives("units(0)", 1);
        // Each payment is rounded by itself: 9 and 9 give nothing, though 18 would give one.
        new Run("each by itself").after("setPrice(0, 10000)", "begin(0, 9)").gives("pay(0, 9)", 0)
                .gives("units(0)", 0);
        new Run("by 999").after("setPrice(1, 999)", "begin(1, 998)", "begin(1, 999)")
                .gives("units(0)", 998).gives("units(1)", 1000).gives("pay(0, 1000000)", 1001001);
    }

    private static void saversBeginAtThePriceOfToday() {
        new Run("price of today").after("setPrice(2, 500)", "pass(1)", "setPrice(2, 250)", "pass(1)")
                .gives("begin(2, 100)", 0).gives("units(0)", 400)
                .after("setPrice(2, 200)").gives("begin(2, 100)", 1).gives("units(1)", 500).gives("units(0)", 400);
    }

    /** "IllegalStateException if there are 10". */
    private static void thereAreAtMostTenSavers() {
        Run run = new Run("ten savers");
        for (int i = 0; i < 10; i++) {
            run.gives("begin(" + i % 5 + ", " + i + ")", i);
        }
        run.badState("begin(0, 10)", "begin(4, 0)", "begin(0, 1000000)")
                .noSuch("units(10)", "provider(10)", "pay(10, 1)", "order(10, 1)")
                .gives("units(9)", 9).gives("pay(9, 1)", 1).gives("order(9, 0)", 0)
                .after("pass(100)").badState("begin(0, 10)");
    }

    private static void refusedSaversTakeNoNumber() {
        Run run = new Run("refused savers");
        for (int i = 0; i < 10; i++) {
            run.badArgument("begin(5, 10)", "begin(0, -1)").gives("begin(0, 10)", i);
        }
        run.badState("begin(0, 10)");
    }

    private static void wrongArgumentsComeAheadOfTooManySavers() {
        withTenSavers("begin, which of both")
                .badArgument("begin(-1, 10)", "begin(5, 10)", "begin(0, -1)", "begin(0, 1000001)")
                .badArgument("begin(" + MAX + ", 10)", "begin(0, " + MIN + ")");
    }

    /** "IndexOutOfBoundsException if there is no such saver". */
    private static void onlySaversThatAreCanPay() {
        new Run("pay of one").after("begin(0, 5)")
                .noSuch("pay(-1, 1)", "pay(1, 1)", "pay(" + MAX + ", 1)", "pay(" + MIN + ", 1)")
                .gives("pay(0, 1)", 1).noSuch("pay(1, 1)").after("begin(0, 5)").gives("pay(1, 1)", 1);
        withTenSavers("pay of ten").noSuch("pay(-1, 1)", "pay(10, 1)").gives("pay(0, 1)", 1).gives("pay(9, 1)", 1);
    }

    /** "money: 1 to 1000000". */
    private static void oneToAMillionIsPaid() {
        new Run("pay by").after("begin(0, 5)").badArgument("pay(0, 0)", "pay(0, -1)", "pay(0, 1000001)")
                .badArgument("pay(0, " + MAX + ")", "pay(0, " + MIN + ")")
                .gives("pay(0, 1)", 1).gives("pay(0, 1000000)", 1000000).gives("units(0)", 1000006)
                .badArgument("pay(0, 0)", "pay(0, 1000001)");
    }

    private static void paidIsAtThePriceOfToday() {
        new Run("paid today").after("begin(3, 0)", "setPrice(3, 500)", "pass(1)", "setPrice(3, 250)", "pass(1)")
                .gives("pay(0, 100)", 400).after("setPrice(3, 200)").gives("pay(0, 100)", 500)
                .gives("units(0)", 900);
        // The price is that of the saver's provider, after a purchase that of the new one.
        new Run("paid to the new one").after("begin(3, 0)", "setPrice(4, 200)", "order(0, 4)")
                .afterTimes(3, "step(0)").gives("pay(0, 100)", 500);
    }

    /** "While an order of a saver goes on, [..] no money can be paid in". */
    private static void nothingIsPaidWhileAnOrderGoesOn() {
        new Run("pay by an order").after("begin(0, 50)", "begin(0, 60)").gives("pay(0, 1)", 1)
                .after("order(0, 1)").badState("pay(0, 1)", "pay(0, 1000000)").gives("pay(1, 1)", 1)
                .after("step(0)").badState("pay(0, 1)", "pay(0, 1000000)").gives("pay(1, 1)", 1)
                .after("step(0)").badState("pay(0, 1)", "pay(0, 1000000)").gives("pay(1, 1)", 1)
                .after("step(0)").gives("pay(0, 1)", 1).gives("units(0)", 52).gives("units(1)", 63)
                .after("order(0, 2)").badState("pay(0, 1)");
    }

    /** Has saver 0 of provider 0 with 99999990 thousandths, at the price 100. */
    private static Run almostFull(String name) {
        return new Run(name).after("setPrice(0, 100)", "begin(0, 999999)").afterTimes(9, "pay(0, 1000000)");
    }

    /** "or the saver would have more than 100000000 thousandths". */
    private static void aSaverHasAtMost100000000() {
        almostFull("just full").gives("units(0)", 99999990).badState("pay(0, 2)", "pay(0, 1000000)")
                .gives("pay(0, 1)", 10).gives("units(0)", 100000000).badState("pay(0, 1)", "pay(0, 1000000)");
        almostFull("one too many").after("setPrice(0, 1000)").badState("pay(0, 11)").gives("pay(0, 10)", 10)
                .badState("pay(0, 1)");
        almostFull("one below").after("setPrice(0, 1000)").gives("pay(0, 9)", 9).badState("pay(0, 2)")
                .gives("pay(0, 1)", 1);
        almostFull("another saver").after("begin(0, 5)").badState("pay(0, 2)").gives("pay(1, 2)", 20);
    }

    private static void aPaymentThatGivesNothingFitsAlways() {
        almostFull("nothing more").after("pay(0, 1)", "setPrice(0, 10000)").gives("pay(0, 9)", 0)
                .badState("pay(0, 10)").gives("units(0)", 100000000);
    }

    private static void whichOfSeveralAPaymentThrows() {
        new Run("pay of none").after("begin(0, 5)").noSuch("pay(1, 0)", "pay(-1, -1)", "pay(1, 1000001)");
        new Run("pay, which of both").after("begin(0, 5)", "order(0, 1)")
                .badArgument("pay(0, 0)", "pay(0, 1000001)", "pay(0, -1)").noSuch("pay(1, 0)", "pay(1, 1)");
        almostFull("full, which of both").after("pay(0, 1)").badArgument("pay(0, 0)", "pay(0, 1000001)")
                .noSuch("pay(1, 1)");
        almostFull("full, by an order").after("pay(0, 1)", "order(0, 1)").badState("pay(0, 1)")
                .badArgument("pay(0, 0)");
    }

    private static void unitsOfTheFirstAndTheLast() {
        withTenSavers("units of ten").gives("units(0)", 0).gives("units(9)", 90)
                .noSuch("units(-1)", "units(10)", "units(" + MAX + ")", "units(" + MIN + ")");
        new Run("units of one").noSuch("units(0)").after("begin(0, 7)").gives("units(0)", 7)
                .noSuch("units(1)", "units(-1)");
    }

    /** "From the sale to the purchase the saver has no units". */
    private static void noUnitsFromTheSaleToThePurchase() {
        new Run("no units").after("begin(0, 700)", "order(0, 1)").gives("units(0)", 700)
                .after("step(0)").gives("units(0)", 700).after("step(0)").gives("units(0)", 0)
                .after("pass(2)").gives("units(0)", 0).after("step(0)").gives("units(0)", 700);
        new Run("nothing to move").after("begin(0, 0)", "order(0, 1)", "step(0)", "step(0)").gives("money(0)", 0)
                .after("pass(3)").gives("step(0)", 1).gives("units(0)", 0).gives("madeGood(0)", 0)
                .gives("provider(0)", 1);
    }

    private static void providersOfTheFirstAndTheLast() {
        withTenSavers("providers of ten").gives("provider(0)", 0).gives("provider(9)", 4)
                .noSuch("provider(-1)", "provider(10)", "provider(" + MAX + ")", "provider(" + MIN + ")");
        new Run("provider of one").noSuch("provider(0)").after("begin(3, 7)").gives("provider(0)", 3)
                .noSuch("provider(1)", "provider(-1)");
    }

    /** "Returns the provider; the old one until the purchase". */
    private static void theOldProviderUntilThePurchase() {
        new Run("until the purchase").after("begin(3, 70)", "order(0, 1)").gives("provider(0)", 3)
                .after("step(0)").gives("provider(0)", 3).after("step(0)").gives("provider(0)", 3)
                .after("pass(50)").gives("provider(0)", 3).after("step(0)").gives("provider(0)", 1);
        new Run("until a forced purchase")
                .after("begin(3, 70)", "order(0, 1)", "pass(14)", "force(0)", "pass(13)", "force(0)")
                .gives("provider(0)", 3).after("pass(13)", "force(0)").gives("provider(0)", 1);
    }
}
