/**
 * Promises 12, 13 and 18 to 20, and what the terms say of timely steps: each sentence that names a
 * bound, of what is made good, of the most thousandths, and of who owes.
 */
public final class TimelyBoundsTest {
    private static final String MAX = "2147483647";
    private static final String MIN = "-2147483648";

    public static void main(String[] args) {
        nothingIsMadeGoodIfNothingWasLate();
        oneDayLateMakesGood();
        onlyMoreThanThePurchaseGivesIsMadeGood();
        theTimelySaleHasThePriceOfItsDay();
        theTimelyPurchaseHasThePriceOfItsDay();
        timelyStepsOnDayZero();
        timelyDaysOfTheLongestLateness();
        theLatenessOfThePurchaseMovesNoSale();
        forcedStepsAreReckonedByProvidersPrices();
        timelyReckoningIsRoundedDownTwice();
        madeGoodIsNoneAheadOfThePurchase();
        costIsRoundedUp();
        shareOfTheOldOneIsRoundedDown();
        oneOfBothPaysAll();
        sharesAreNotWrapped();
        purchaseOfJustTheMost();
        purchaseWithWhatIsMadeGood();
        forcedPurchaseOfJustTheMost();
        forcedPurchaseWithWhatIsMadeGood();
        tooMuchIsNotWrapped();
        whatIsRefusedCanBeDoneLater();
        owesTakesProvidersZeroToFour();
        owesIsBelowZeroTheOtherWay();
        lossesTakesProvidersZeroToFour();
        sumsAboveTheIntegersAreKept();
        Check.end();
    }

    /** Has saver 0 of provider 0 with the thousandths, and its order 0 to provider 1, of the day 0. */
    private static Run withOrder(String name, int thousandths) {
        return new Run(name).after("begin(0, " + thousandths + ")", "order(0, 1)");
    }

    private static Run purchase(Run run, long units, long madeGood, long owed, long lost) {
        return run.after("step(0)").gives("units(0)", units).gives("madeGood(0)", madeGood)
                .gives("owes(0, 1)", owed).gives("owes(1, 0)", -owed).gives("losses(1)", lost)
                .gives("losses(0)", 0);
    }

    /** "If steps were late": all just on time are not, whatever the prices do. */
    private static void nothingIsMadeGoodIfNothingWasLate() {
        Run run = withOrder("all on time", 1000)
                .after("pass(3)", "step(0)", "pass(2)", "setPrice(0, 100)", "step(0)",
                "setPrice(0, 10000)", "pass(2)", "setPrice(1, 10000)");
        purchase(run, 10, 0, 0, 0).gives("late(0)", 0);
    }

    private static void oneDayLateMakesGood() {
        Run answer = withOrder("answer a day late", 1000)
                .after("pass(4)", "step(0)", "setPrice(0, 500)", "step(0)");
        purchase(answer, 1000, 500, 500, 0);
        Run sale = withOrder("sale a day late", 1000).after("step(0)", "pass(3)", "setPrice(0, 500)", "step(0)");
        purchase(sale, 1000, 500, 500, 0);
        Run last = withOrder("purchase a day late", 1000)
                .after("step(0)", "step(0)", "pass(3)", "setPrice(1, 2000)");
        purchase(last, 1000, 500, 0, 1000);
    }

    /** "If that is more than what the purchase gives, what is lacking is made good". */
    private static void onlyMoreThanThePurchaseGivesIsMadeGood() {
        Run same = withOrder("just as much", 1000).after("step(0)", "step(0)", "pass(3)");
        purchase(same, 1000, 0, 0, 0).gives("late(0)", 1);
        Run less = withOrder("less by timely steps", 1000)
                .after("step(0)", "step(0)", "pass(3)", "setPrice(1, 999)");
        purchase(less, 1001, 0, 0, 0);
        Run one = withOrder("one more by timely steps", 1000)
                .after("step(0)", "step(0)", "pass(3)", "setPrice(1, 1001)");
        purchase(one, 1000, 1, 0, 2);
    }

    /** "the sale on its day less the days by which the answer and the sale were late". */
    private static void theTimelySaleHasThePriceOfItsDay() {
        // Answer on 5, 2 late; sale on 10, 3 late; so the timely sale is on 5.
        Run ahead = withOrder("set ahead of the timely sale", 1000)
                .after("pass(4)", "setPrice(0, 2000)", "pass(1)", "step(0)", "pass(5)", "setPrice(0, 1000)",
                        "step(0)");
        purchase(ahead, 2000, 1000, 1000, 0);
        Run on = withOrder("set on the timely sale", 1000)
                .after("pass(5)", "setPrice(0, 2000)", "step(0)", "pass(5)", "setPrice(0, 1000)", "step(0)");
        purchase(on, 2000, 1000, 1000, 0);
        Run behind = withOrder("set behind the timely sale", 1000)
                .after("pass(5)", "step(0)", "pass(1)", "setPrice(0, 2000)", "pass(4)", "setPrice(0, 1000)",
                        "step(0)");
        purchase(behind, 1000, 0, 0, 0);
    }

    /** "the purchase on its day less the days by which all three were late". */
    private static void theTimelyPurchaseHasThePriceOfItsDay() {
        // Answer on 5, 2 late; sale on 10, 3 late; purchase on 16, 4 late; so the timely one is on 7.
        Run ahead = withOrder("set ahead of the timely purchase", 1000)
                .after("pass(5)", "step(0)", "pass(1)", "setPrice(1, 500)", "pass(4)", "step(0)", "pass(6)",
                        "setPrice(1, 1000)");
        purchase(ahead, 2000, 1000, 555, 445);
        Run on = withOrder("set on the timely purchase", 1000)
                .after("pass(5)", "step(0)", "pass(2)", "setPrice(1, 500)", "pass(3)", "step(0)", "pass(6)",
                        "setPrice(1, 1000)");
        purchase(on, 2000, 1000, 555, 445).gives("late(0)", 9);
        Run behind = withOrder("set behind the timely purchase", 1000)
                .after("pass(5)", "step(0)", "pass(3)", "setPrice(1, 500)", "pass(2)", "step(0)", "pass(6)",
                        "setPrice(1, 1000)");
        purchase(behind, 1000, 0, 0, 0);
    }

    private static void timelyStepsOnDayZero() {
        // All early; only the purchase is late, so that the timely sale is on 0 and the purchase on 2.
        Run run = withOrder("sale on day 0", 1000)
                .after("step(0)", "step(0)", "pass(1)", "setPrice(0, 5000)", "pass(1)",
                "setPrice(1, 800)", "pass(1)", "setPrice(1, 1000)");
        purchase(run, 1250, 250, 0, 250);
    }

    private static void timelyDaysOfTheLongestLateness() {
        Run run = withOrder("from day 0 to 2000", 1000)
                .after("pass(3)", "setPrice(0, 4000)", "setPrice(1, 500)", "pass(1)",
                "setPrice(0, 1000)", "setPrice(1, 1000)", "pass(96)").afterTimes(19, "pass(100)")
                .after("step(0)", "step(0)");
        purchase(run, 8000, 7000, 7000, 0).gives("late(0)", 1997);
        Run last = withOrder("a purchase on 2000", 1000)
                .after("step(0)", "step(0)", "pass(2)", "setPrice(1, 500)", "pass(1)",
                "setPrice(1, 1000)", "pass(97)").afterTimes(19, "pass(100)");
        purchase(last, 2000, 1000, 0, 1000).gives("late(0)", 1998);
    }

    private static void theLatenessOfThePurchaseMovesNoSale() {
        Run run = withOrder("sale on time", 1000)
                .after("pass(1)", "setPrice(0, 9000)", "pass(1)", "setPrice(0, 1000)",
                "step(0)", "step(0)", "pass(4)");
        purchase(run, 1000, 0, 0, 0).gives("late(0)", 2);
    }

    /** "both at the prices of the providers on these days, [..] also if they were forced". */
    private static void forcedStepsAreReckonedByProvidersPrices() {
        Run sale = withOrder("forced sale", 1000).after("setDefault(500)", "step(0)", "pass(13)", "force(0)")
                .gives("money(0)", 500);
        purchase(sale, 1000, 500, 500, 0);
        Run good = withOrder("forced sale at more", 1000)
                .after("setDefault(2000)", "step(0)", "pass(13)", "force(0)")
                .gives("money(0)", 2000);
        purchase(good, 2000, 0, 0, 0);
        withOrder("forced purchase", 1000).after("setDefault(4000)", "step(0)", "step(0)", "pass(13)", "force(0)")
                .gives("units(0)", 1000).gives("madeGood(0)", 750).gives("losses(1)", 750).gives("owes(0, 1)", 0);
        withOrder("forced purchase at less", 1000)
                .after("setDefault(500)", "step(0)", "step(0)", "pass(13)", "force(0)")
                .gives("units(0)", 2000).gives("madeGood(0)", 0).gives("losses(1)", 0);
    }

    private static void timelyReckoningIsRoundedDownTwice() {
        // 3 thousandths at 1999 bring 5 (5.997), which at 999 give 5 (5.005); all at once it would be 6.
        Run run = new Run("rounded down twice").after("setPrice(0, 1999)", "setPrice(1, 999)", "begin(0, 6)")
                .gives("units(0)", 3)
                .after("order(0, 1)", "pass(4)", "setPrice(0, 100)", "setPrice(1, 10000)", "step(0)");
        run.after("step(0)").gives("money(0)", 0);
        purchase(run, 5, 5, 50, 0);
    }

    /** "Returns the thousandths, 0 ahead of the purchase". */
    private static void madeGoodIsNoneAheadOfThePurchase() {
        Run run = withOrder("ahead of the purchase", 1000).gives("madeGood(0)", 0).after("pass(4)", "step(0)")
                .gives("madeGood(0)", 0).after("setPrice(0, 100)", "step(0)").gives("madeGood(0)", 0)
                .gives("units(0)", 0);
        purchase(run, 1000, 900, 900, 0).after("order(0, 2)").gives("madeGood(1)", 0).gives("madeGood(0)", 900);
    }

    /** Lets the purchase alone be late, with the price of the new one then; nothing of it gives a thousandth. */
    private static Run lackingAll(String name, int thousandths, int price) {
        return new Run(name)
                .after("begin(0, " + thousandths + ")", "setPrice(0, 100)", "setPrice(1, 100)", "order(0, 1)",
                "step(0)", "step(0)", "pass(3)", "setPrice(1, " + price + ")");
    }

    /** "the thousandths that are lacking times the price [..], divided by 1000, rounded up". */
    private static void costIsRoundedUp() {
        // 20 thousandths bring 2, which give 20 by timely steps.
        purchase(lackingAll("just 18", 20, 1000), 20, 18, 0, 18);
        purchase(lackingAll("a little more than 10", 10, 1001), 10, 10, 0, 11);
        purchase(lackingAll("just 100", 10, 10000), 10, 10, 0, 100);
        purchase(lackingAll("a little less than 100", 10, 9999), 10, 10, 0, 100);
        purchase(lackingAll("just above 99", 10, 9901), 10, 10, 0, 100);
        purchase(lackingAll("just 99", 10, 9900), 10, 10, 0, 99);
        // Less than one is lacking by price: 1 * 0.101 costs 1.
        purchase(lackingAll("less than 1", 10, 101), 10, 1, 0, 1);
    }

    /** "the cost times the days by which answer and sale were late, divided by [..] all three [..], rounded down". */
    private static void shareOfTheOldOneIsRoundedDown() {
        share(1, 0, 1, 3, 1);
        share(1, 0, 1, 1, 0);
        share(1, 0, 2, 3, 1);
        share(1, 0, 2, 2, 0);
        share(2, 0, 1, 2, 1);
        share(1, 1, 1, 1, 0);
        share(1, 1, 1, 2, 1);
        share(0, 3, 1, 5, 3);
        share(3, 4, 1, 8, 7);
        share(3, 4, 1, 7, 6);
        share(1, 0, 99, 9, 0);
        share(90, 0, 1, 9, 8);
    }

    /** "the rest is the loss of the new one". */
    private static void oneOfBothPaysAll() {
        share(1, 0, 0, 7, 7);
        share(0, 1, 0, 7, 7);
        share(2, 3, 0, 7, 7);
        purchase(lackingAll("the new one alone", 20, 1000), 20, 18, 0, 18);
    }

    /** Each step is late by so many days; a sale at 100 brings nothing, so that all is lacking, at 1000. */
    private static void share(int answer, int sale, int last, int cost, int owed) {
        Run run = withOrder(cost + " by " + answer + ", " + sale + " and " + last, cost)
                .after("pass(" + (3 + answer) + ")").gives("step(0)", answer)
                .after("pass(" + (2 + sale) + ")", "setPrice(0, 100)").gives("step(0)", sale).gives("money(0)", 0);
        if (last > 0) {
            run.after("pass(2)", "pass(" + last + ")");
        }
        purchase(run, cost, cost, owed, cost - owed).gives("late(0)", answer + sale + last);
    }

    private static void sharesAreNotWrapped() {
        Run run = holding("large shares", 10000000)
                .after("setPrice(0, 10000)", "order(0, 1)", "pass(6)", "step(0)", "step(0)")
                .after("pass(5)", "setPrice(1, 1000)", "pass(1)", "setPrice(1, 10000)");
        // 3 and 4 days late: 900000000 * 3 / 7.
        purchase(run, 100000000, 90000000, 385714285, 514285715);
    }

    /** Has saver 0 of provider 0 with so many thousandths, at the price 1000. */
    private static Run holding(String name, int thousandths) {
        Run run = new Run(name).after("setPrice(0, 100)", "begin(0, 0)")
                .afterTimes(thousandths / 10000000, "pay(0, 1000000)");
        int rest = thousandths % 10000000;
        if (rest >= 10) {
            run.after("pay(0, " + rest / 10 + ")");
        }
        run.after("setPrice(0, 1000)");
        if (rest % 10 > 0) {
            run.after("pay(0, " + rest % 10 + ")");
        }
        return run.gives("units(0)", thousandths);
    }

    /** "or the saver would have more than 100000000 thousandths". */
    private static void purchaseOfJustTheMost() {
        String[] sale = {"setPrice(0, 1001)", "order(0, 1)", "step(0)", "step(0)"};
        holding("just the most", 99900100).after(sale).gives("money(0)", 100000000)
                .gives("step(0)", 0).gives("units(0)", 100000000).gives("stage(0)", 3);
        holding("one too many", 99900101).after(sale).gives("money(0)", 100000001)
                .badState("step(0)", "force(0)").gives("stage(0)", 2).gives("units(0)", 0).gives("provider(0)", 0)
                .after("setPrice(1, 1001)").gives("step(0)", 0).gives("units(0)", 99900100);
    }

    /** "those that are made good counted". */
    private static void purchaseWithWhatIsMadeGood() {
        String[] sale = {"setPrice(0, 10000)", "setPrice(1, 9999)", "order(0, 1)", "step(0)", "step(0)", "pass(3)",
            "setPrice(1, 10000)"};
        // By timely steps ten thousand more than the purchase gives.
        purchase(holding("just the most by both", 99990000).after(sale), 100000000, 10000, 0, 100000);
        holding("one too many by both", 99990001).after(sale).badState("step(0)", "force(0)").gives("stage(0)", 2)
                .gives("units(0)", 0).gives("provider(0)", 0).gives("madeGood(0)", 0).gives("losses(1)", 0)
                .gives("late(0)", 0).gives("due(0)", 2).after("pass(100)").badState("step(0)");
    }

    private static void forcedPurchaseOfJustTheMost() {
        String[] sale = {"setPrice(0, 1001)", "setPrice(1, 2000)", "order(0, 1)", "step(0)", "step(0)",
                        "pass(13)"};
        holding("just the most by force", 99900100).after(sale).gives("force(0)", 11).gives("units(0)", 100000000)
                .gives("madeGood(0)", 0).gives("losses(1)", 0);
        holding("one too many by force", 99900101).after(sale).badState("force(0)").gives("stage(0)", 2)
                .gives("units(0)", 0)
                .gives("provider(0)", 0).gives("step(0)", 11).gives("units(0)", 50000000);
    }

    private static void forcedPurchaseWithWhatIsMadeGood() {
        String[] sale = {"setPrice(0, 10000)", "setPrice(1, 9999)", "setDefault(10000)", "order(0, 1)", "step(0)",
                        "step(0)",
            "pass(13)"};
        holding("just the most by force and made good", 99990000).after(sale).gives("force(0)", 11)
                .gives("units(0)", 100000000).gives("madeGood(0)", 10000).gives("losses(1)", 99990);
        holding("one too many by force and made good", 99990001).after(sale).badState("force(0)", "step(0)")
                .gives("stage(0)", 2).gives("units(0)", 0).gives("provider(0)", 0).gives("madeGood(0)", 0)
                .gives("losses(1)", 0);
    }

    /** 4347826086 thousandths would be 52858790 in an int. */
    private static void tooMuchIsNotWrapped() {
        String[] sale = {"setPrice(0, 10000)", "setPrice(1, 230)", "order(0, 1)", "step(0)", "step(0)"};
        holding("too much bought", 100000000).after(sale).gives("money(0)", 1000000000).badState("step(0)")
                .after("setPrice(1, 100)").badState("step(0)").after("setPrice(1, 10000)").gives("step(0)", 0)
                .gives("units(0)", 100000000);
        holding("too much made good", 100000000).after(sale)
                .after("pass(13)", "setPrice(1, 10000)", "setDefault(10000)")
                .badState("step(0)", "force(0)").gives("stage(0)", 2).gives("losses(1)", 0);
    }

    /** The sale alone is late, by one day: the timely purchase has the price of the day ahead of the purchase. */
    private static void whatIsRefusedCanBeDoneLater() {
        holding("later on", 100000000)
                .after("setPrice(0, 10000)", "setPrice(1, 10000)", "order(0, 1)", "step(0)", "pass(3)")
                .after("setPrice(1, 9999)", "step(0)").badState("step(0)", "pay(0, 1)", "order(0, 2)")
                .after("pass(1)", "setPrice(1, 10000)").badState("step(0)")
                .after("pass(1)").gives("step(0)", 0).gives("units(0)", 100000000).gives("madeGood(0)", 0);
    }

    /** "provider: 0 to 4"; "other: 0 to 4". */
    private static void owesTakesProvidersZeroToFour() {
        new Run("owes").badArgument("owes(-1, 0)", "owes(5, 0)", "owes(0, -1)", "owes(0, 5)", "owes(-1, 5)",
                        "owes(5, 5)")
                .badArgument("owes(" + MAX + ", 0)", "owes(" + MIN + ", 0)", "owes(0, " + MAX + ")",
                        "owes(0, " + MIN + ")")
                .gives("owes(0, 4)", 0).gives("owes(4, 0)", 0).gives("owes(0, 0)", 0).gives("owes(4, 4)", 0);
        Run last = new Run("the last owes the first").after("begin(4, 7)", "order(0, 0)", "pass(4)", "step(0)",
                "setPrice(4, 100)", "step(0)", "step(0)");
        last.gives("owes(4, 0)", 7).gives("owes(0, 4)", -7).gives("owes(4, 4)", 0).gives("owes(0, 0)", 0)
                .gives("owes(3, 0)", 0).gives("owes(4, 1)", 0).gives("losses(0)", 0).gives("losses(4)", 0)
                .badArgument("owes(4, 5)", "owes(5, 4)");
    }

    /** "less what that owes it"; "below 0 if the other one owes more". */
    private static void owesIsBelowZeroTheOtherWay() {
        Run run = new Run("netted")
                .after("begin(0, 5)", "begin(1, 5)", "begin(1, 4)", "order(0, 1)", "order(1, 0)", "order(2, 0)",
                "pass(4)", "step(0)", "step(1)", "step(2)", "setPrice(0, 100)", "setPrice(1, 100)",
                "step(0)", "step(1)", "step(2)", "setPrice(0, 1000)", "setPrice(1, 1000)");
        run.after("step(0)").gives("owes(0, 1)", 5).gives("owes(1, 0)", -5)
                .after("step(1)").gives("owes(0, 1)", 0).gives("owes(1, 0)", 0)
                .after("step(2)").gives("owes(0, 1)", -4).gives("owes(1, 0)", 4)
                .gives("owes(0, 0)", 0).gives("owes(1, 1)", 0);
    }

    private static void lossesTakesProvidersZeroToFour() {
        new Run("losses").badArgument("losses(-1)", "losses(5)", "losses(" + MAX + ")", "losses(" + MIN + ")")
                .gives("losses(0)", 0).gives("losses(4)", 0);
        for (int to = 0; to < 5; to += 4) {
            Run run = new Run("losses of " + to)
                .after("begin(2, 10)", "setPrice(2, 100)", "setPrice(" + to + ", 100)",
                    "order(0, " + to + ")", "step(0)", "step(0)", "pass(3)", "setPrice(" + to + ", 10000)",
                        "step(0)");
            for (int i = 0; i < 5; i++) {
                run.gives("losses(" + i + ")", i == to ? 100 : 0).gives("owes(2, " + i + ")", 0);
            }
            run.badArgument("losses(-1)", "losses(5)");
        }
    }

    /** Three times 900000000 is more than an int holds. */
    private static void sumsAboveTheIntegersAreKept() {
        String[] begun = {"setPrice(0, 100)", "begin(0, 1000000)", "begin(0, 1000000)", "begin(0, 1000000)",
                        "setPrice(0, 10000)",
            "order(0, 1)", "order(1, 1)", "order(2, 1)"};
        String[] steps = {"step(0)", "step(1)", "step(2)"};
        new Run("owed sums").after(begun).after("pass(4)").after(steps).after(steps).after("setPrice(1, 10000)")
                .after(steps)
                .gives("units(2)", 100000000).gives("owes(0, 1)", 2700000000L).gives("owes(1, 0)", -2700000000L)
                .gives("losses(1)", 0);
        new Run("lost sums").after(begun).after(steps).after(steps).after("pass(3)", "setPrice(1, 10000)")
                .after(steps)
                .gives("units(2)", 100000000).gives("losses(1)", 2700000000L).gives("owes(0, 1)", 0);
    }
}
