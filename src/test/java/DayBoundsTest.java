/** Promises 1 to 6, and what the terms say of days and prices: each sentence that names a bound. */
public final class DayBoundsTest {
    private static final String MAX = "2147483647";
    private static final String MIN = "-2147483648";

    public static void main(String[] args) {
        newObjectIsOnDayZero();
        newObjectHasNoSavers();
        newObjectOwesNothing();
        daysToPassAreOneToAHundred();
        noDayIsLaterThan2000();
        theLastDayIsReachedByTheLongestPass();
        aRefusedPassKeepsToday();
        providersOfPricesAreZeroToFour();
        pricesAre100To10000();
        setPriceAnswersThePriceUntilNow();
        sixtyOnePricesTheFirstOneCounted();
        theLatestPriceIsChangedOnItsDay();
        pricesAreCountedForEachProvider();
        refusedPricesAreNotCounted();
        wrongArgumentsComeAheadOfTooManyPrices();
        theLastPriceOnTheLastDay();
        aPriceHoldsFromItsDayUntilAnother();
        daysOfPricesAreZeroToThePresentOne();
        eachOf61PricesIsKept();
        defaultPriceIs100To10000();
        Check.end();
    }

    /** "Creates providers without savers, on the day 0"; "the present day is 0 at first". */
    private static void newObjectIsOnDayZero() {
        new Run("new object").gives("today()", 0)
                .gives("price(0, 0)", 1000).gives("price(4, 0)", 1000).badArgument("price(0, 1)", "price(4, 1)");
        new Run("default at first").gives("setDefault(1000)", 1000);
    }

    private static void newObjectHasNoSavers() {
        new Run("no saver")
                .noSuch("units(0)", "provider(0)", "pay(0, 1)", "pay(0, 0)", "order(0, 1)", "order(0, 5)")
                .noSuch("units(-1)", "provider(-1)", "pay(-1, 1)", "order(-1, 1)")
                .noSuch("step(0)", "force(0)", "stage(0)", "due(0)", "late(0)", "money(0)", "madeGood(0)");
    }

    private static void newObjectOwesNothing() {
        Run run = new Run("nothing owed");
        for (int i = 0; i < 5; i++) {
            for (int j = 0; j < 5; j++) {
                run.gives("owes(" + i + ", " + j + ")", 0);
            }
            run.gives("losses(" + i + ")", 0);
        }
    }

    /** "days: 1 to 100". */
    private static void daysToPassAreOneToAHundred() {
        new Run("pass").badArgument("pass(0)", "pass(101)", "pass(-1)", "pass(" + MAX + ")", "pass(" + MIN + ")")
                .gives("pass(1)", 1).gives("pass(100)", 101)
                .badArgument("pass(0)", "pass(101)", "pass(-1)", "pass(" + MAX + ")", "pass(" + MIN + ")")
                .gives("today()", 101);
    }

    /** "IllegalStateException if it would be later than 2000", behind the one for days. */
    private static void noDayIsLaterThan2000() {
        new Run("last day").afterTimes(19, "pass(100)").gives("pass(99)", 1999)
                .badState("pass(2)", "pass(100)").badArgument("pass(0)", "pass(101)")
                .gives("pass(1)", 2000)
                .badState("pass(1)", "pass(2)", "pass(100)")
                .badArgument("pass(0)", "pass(101)", "pass(-1)", "pass(" + MAX + ")", "pass(" + MIN + ")")
                .gives("today()", 2000);
    }

    private static void theLastDayIsReachedByTheLongestPass() {
        new Run("just to 2000").afterTimes(19, "pass(100)").gives("pass(100)", 2000);
        new Run("just above 2000").afterTimes(19, "pass(100)").gives("pass(1)", 1901)
                .badState("pass(100)").gives("pass(99)", 2000);
    }

    private static void aRefusedPassKeepsToday() {
        new Run("today").after("pass(7)").badArgument("pass(101)").gives("today()", 7).gives("today()", 7);
    }

    /** "provider: 0 to 4". */
    private static void providersOfPricesAreZeroToFour() {
        new Run("providers").after("pass(2)")
                .badArgument("setPrice(-1, 500)", "setPrice(5, 500)")
                .badArgument("setPrice(" + MAX + ", 500)", "setPrice(" + MIN + ", 500)")
                .badArgument("price(-1, 0)", "price(5, 0)", "price(" + MAX + ", 0)", "price(" + MIN + ", 0)")
                .gives("setPrice(0, 500)", 1000).gives("setPrice(4, 600)", 1000)
                .gives("price(0, 2)", 500).gives("price(1, 2)", 1000).gives("price(4, 2)", 600);
    }

    /** "price: 100 to 10000". */
    private static void pricesAre100To10000() {
        new Run("prices")
                .badArgument("setPrice(0, 99)", "setPrice(0, 10001)", "setPrice(4, 99)", "setPrice(4, 10001)")
                .badArgument("setPrice(0, 0)", "setPrice(0, -100)", "setPrice(0, " + MAX + ")",
                        "setPrice(0, " + MIN + ")")
                .badArgument("setPrice(5, 99)", "setPrice(-1, 10001)")
                .gives("setPrice(0, 100)", 1000).gives("setPrice(0, 10000)", 100).gives("price(0, 0)", 10000)
                .gives("setPrice(4, 10000)", 1000).gives("setPrice(4, 100)", 10000).gives("price(4, 0)", 100)
                .badArgument("setPrice(0, 99)", "setPrice(0, 10001)");
    }

    /** "Returns the price that held until now". */
    private static void setPriceAnswersThePriceUntilNow() {
        new Run("until now").gives("setPrice(2, 300)", 1000).gives("setPrice(2, 400)", 300)
                .after("pass(100)").gives("setPrice(2, 500)", 400).gives("setPrice(2, 600)", 500)
                .after("pass(1)").gives("setPrice(2, 600)", 600).gives("setPrice(3, 700)", 1000);
    }

    /** Sets the provider 0's price on each of the days 1 to 60. */
    private static Run withAllPrices(String name) {
        Run run = new Run(name);
        for (int i = 1; i <= 60; i++) {
            run.after("pass(1)", "setPrice(0, " + (200 + i) + ")");
        }
        return run;
    }

    /** "has had 61 prices, the first one counted, and the latest one does not hold from the present day on". */
    private static void sixtyOnePricesTheFirstOneCounted() {
        Run run = new Run("61 prices");
        for (int i = 1; i <= 60; i++) {
            run.after("pass(1)").gives("setPrice(0, " + (200 + i) + ")", i == 1 ? 1000 : 199 + i);
        }
        run.after("pass(1)").badState("setPrice(0, 500)", "setPrice(0, 260)")
                .gives("price(0, 61)", 260).gives("price(0, 60)", 260).gives("price(0, 59)", 259)
                .after("pass(100)").badState("setPrice(0, 500)").gives("price(0, 161)", 260);
    }

    /** "one that does is changed, and no new one is counted". */
    private static void theLatestPriceIsChangedOnItsDay() {
        Run first = new Run("change of the first");
        first.gives("setPrice(0, 300)", 1000).gives("setPrice(0, 400)", 300).gives("price(0, 0)", 400);
        for (int i = 1; i <= 59; i++) {
            first.after("pass(1)", "setPrice(0, 500)");
        }
        first.after("pass(1)").gives("setPrice(0, 600)", 500).gives("setPrice(0, 700)", 600)
                .gives("price(0, 59)", 500).gives("price(0, 60)", 700).gives("price(0, 0)", 400)
                .after("pass(1)").badState("setPrice(0, 500)");
        withAllPrices("change of the 61st").gives("setPrice(0, 100)", 260).gives("setPrice(0, 10000)", 100)
                .gives("setPrice(0, 260)", 10000).gives("price(0, 60)", 260).gives("price(0, 59)", 259)
                .after("pass(1)").badState("setPrice(0, 500)");
        Run halfway = new Run("change of one in the middle");
        for (int i = 1; i <= 60; i++) {
            halfway.after("pass(1)", "setPrice(0, 300)", "setPrice(0, 400)", "setPrice(0, 500)");
        }
        halfway.after("pass(1)").badState("setPrice(0, 500)");
    }

    private static void pricesAreCountedForEachProvider() {
        withAllPrices("another provider").after("pass(1)").badState("setPrice(0, 500)")
                .gives("setPrice(1, 500)", 1000).gives("setPrice(4, 500)", 1000)
                .after("pass(1)").gives("setPrice(1, 600)", 500).badState("setPrice(0, 500)");
    }

    /** "A method that throws an exception changes nothing": the count of prices, too. */
    private static void refusedPricesAreNotCounted() {
        Run run = new Run("refused prices");
        for (int i = 1; i <= 60; i++) {
            run.after("pass(1)").badArgument("setPrice(0, 99)").after("setPrice(0, 500)");
        }
        run.after("pass(1)").badState("setPrice(0, 500)");
    }

    /** "If several exceptions apply, the one that is documented first is thrown". */
    private static void wrongArgumentsComeAheadOfTooManyPrices() {
        withAllPrices("which of both").after("pass(1)")
                .badArgument("setPrice(0, 99)", "setPrice(0, 10001)", "setPrice(0, " + MAX + ")",
                        "setPrice(0, " + MIN + ")")
                .badArgument("setPrice(-1, 500)", "setPrice(5, 500)");
    }

    private static void theLastPriceOnTheLastDay() {
        Run run = new Run("price on 2000");
        for (int i = 1; i <= 59; i++) {
            run.after("pass(1)", "setPrice(0, 500)");
        }
        run.afterTimes(19, "pass(100)").after("pass(41)").gives("today()", 2000)
                .gives("setPrice(0, 600)", 500).gives("setPrice(0, 700)", 600)
                .gives("price(0, 1999)", 500).gives("price(0, 2000)", 700).badArgument("price(0, 2001)");
    }

    /** "one that is set holds from the day on which it is set, until another one is". */
    private static void aPriceHoldsFromItsDayUntilAnother() {
        new Run("from its day").after("pass(5)", "setPrice(3, 300)", "pass(5)", "setPrice(3, 400)", "pass(1)")
                .gives("price(3, 0)", 1000).gives("price(3, 4)", 1000).gives("price(3, 5)", 300)
                .gives("price(3, 9)", 300).gives("price(3, 10)", 400).gives("price(3, 11)", 400)
                .gives("price(2, 5)", 1000).gives("price(4, 10)", 1000);
    }

    /** "day: 0 to the present day". */
    private static void daysOfPricesAreZeroToThePresentOne() {
        new Run("day 0").gives("price(0, 0)", 1000)
                .badArgument("price(0, -1)", "price(0, 1)", "price(0, " + MAX + ")", "price(0, " + MIN + ")");
        new Run("day 9").after("pass(9)").gives("price(0, 0)", 1000).gives("price(0, 9)", 1000)
                .badArgument("price(0, -1)", "price(0, 10)", "price(5, 10)", "price(-1, -1)");
        new Run("day 2000").afterTimes(20, "pass(100)").gives("price(4, 0)", 1000).gives("price(4, 2000)", 1000)
                .badArgument("price(4, 2001)", "price(4, -1)", "price(4, " + MAX + ")", "price(4, " + MIN + ")");
    }

    private static void eachOf61PricesIsKept() {
        Run run = withAllPrices("every price").after("pass(1)").gives("price(0, 0)", 1000);
        for (int day = 1; day <= 60; day++) {
            run.gives("price(0, " + day + ")", 200 + day);
        }
        run.gives("price(0, 61)", 260);
    }

    /** "price: 100 to 10000"; "Returns the default price before". */
    private static void defaultPriceIs100To10000() {
        new Run("default")
                .badArgument("setDefault(99)", "setDefault(10001)", "setDefault(0)", "setDefault(-100)")
                .badArgument("setDefault(" + MAX + ")", "setDefault(" + MIN + ")")
                .gives("setDefault(100)", 1000).gives("setDefault(10000)", 100)
                .badArgument("setDefault(99)", "setDefault(10001)")
                .after("pass(100)").gives("setDefault(5000)", 10000).gives("setDefault(5000)", 5000)
                .gives("price(0, 100)", 1000);
    }
}
