/** Promises 11 to 17, and what the terms say of orders: each sentence that names a bound. */
public final class OrderBoundsTest {
    private static final String MAX = "2147483647";
    private static final String MIN = "-2147483648";
    private static final String[] QUESTIONS = {"stage", "due", "late", "money", "madeGood"};

    public static void main(String[] args) {
        onlySaversThatAreCanOrder();
        ordersGoToAnotherProvider();
        oneOrderOfASaverAtATime();
        thirtyOrdersAreMade();
        refusedOrdersTakeNoNumber();
        whichOfSeveralAnOrderThrows();
        onlyOrdersThatAreAreStepped();
        onlyOrdersThatAreAreAskedFor();
        ordersThatAreDoneAreNotStepped();
        anAnswerIsDueWithinThreeDays();
        aSaleIsDueWithinTwoDays();
        aPurchaseIsDueWithinTwoDays();
        daysAreCountedFromTheStepAhead();
        theLongestLateness();
        answersAreForcedIfMoreThanTenLate();
        salesAreForcedIfMoreThanTenLate();
        purchasesAreForcedIfMoreThanTenLate();
        latenessOfStepsThatAreDoneForcesNothing();
        lateStepsCanBeDoneUnforced();
        whatIsForcedHasTheDefaultPriceOfNow();
        whatIsNotForcedHasThePriceOfNow();
        stagesGoFromAnswerToDone();
        dueIsTheLastDayThatIsNotLate();
        lateCountsWhatIsDone();
        moneyIsNoneAheadOfTheSale();
        moneyOfTheSaleIsRoundedDown();
        moneyOfTheMostUnitsAtTheHighestPrice();
        Check.end();
    }

    /** Has saver 0 of provider 0 with 1000 thousandths and its order 0 to provider 1, of the day 0. */
    private static Run withOrder(String name) {
        return new Run(name).after("begin(0, 1000)", "order(0, 1)");
    }

    private static void onlySaversThatAreCanOrder() {
        new Run("order of one").noSuch("order(0, 1)").after("begin(0, 5)")
                .noSuch("order(-1, 1)", "order(1, 1)", "order(" + MAX + ", 1)", "order(" + MIN + ", 1)")
                .gives("order(0, 1)", 0).noSuch("order(1, 1)");
        Run run = new Run("order of ten");
        run.afterTimes(10, "begin(0, 5)").noSuch("order(-1, 1)", "order(10, 1)")
                .gives("order(9, 1)", 0).gives("order(0, 1)", 1);
    }

    /** "to: 0 to 4, not the provider of the saver". */
    private static void ordersGoToAnotherProvider() {
        new Run("to").after("begin(2, 5)").badArgument("order(0, -1)", "order(0, 5)", "order(0, 2)")
                .badArgument("order(0, " + MAX + ")", "order(0, " + MIN + ")").gives("order(0, 0)", 0);
        new Run("to the last").after("begin(0, 5)").badArgument("order(0, 0)").gives("order(0, 4)", 0);
        new Run("from the last").after("begin(4, 5)").badArgument("order(0, 4)", "order(0, 5)")
                .gives("order(0, 0)", 0);
        withOrder("to the new one").afterTimes(3, "step(0)").badArgument("order(0, 1)").gives("order(0, 0)", 1);
    }

    /** "While an order of a saver goes on, no other one can be made". */
    private static void oneOrderOfASaverAtATime() {
        Run run = withOrder("one at a time").after("begin(0, 5)");
        for (int i = 0; i < 3; i++) {
            run.badState("order(0, 1)", "order(0, 2)", "order(0, 4)").after("step(0)");
        }
        run.gives("order(0, 4)", 1).badState("order(0, 2)").gives("order(1, 1)", 2).badState("order(1, 2)");
    }

    /** Makes 30 orders of saver 0, of which the last one goes on; saver 1 has none. */
    private static Run withThirtyOrders(String name) {
        Run run = new Run(name).after("begin(0, 100)", "begin(3, 100)");
        for (int i = 0; i < 29; i++) {
            String step = "step(" + i + ")";
            run.gives("order(0, " + (i + 1) % 2 + ")", i).after(step, step, step);
        }
        return run.gives("order(0, 0)", 29);
    }

    /** "at most 30 are made". */
    private static void thirtyOrdersAreMade() {
        withThirtyOrders("thirty orders").badState("order(1, 0)", "order(1, 4)")
                .noSuch("stage(30)", "step(30)", "due(30)")
                .gives("stage(29)", 0).gives("stage(0)", 3).gives("step(29)", 0);
        withThirtyOrders("thirty that are done").after("step(29)", "step(29)", "step(29)")
                .badState("order(0, 1)", "order(1, 0)").gives("units(0)", 100).gives("units(1)", 100)
                .gives("pay(0, 1)", 1).gives("pay(1, 1)", 1);
    }

    private static void refusedOrdersTakeNoNumber() {
        Run run = new Run("refused orders").after("begin(0, 5)");
        run.noSuch("order(1, 1)").badArgument("order(0, 0)", "order(0, 5)").gives("order(0, 1)", 0)
                .badState("order(0, 2)").after("step(0)", "step(0)", "step(0)").gives("order(0, 2)", 1);
    }

    private static void whichOfSeveralAnOrderThrows() {
        new Run("order of none").after("begin(0, 5)").noSuch("order(1, 5)", "order(-1, 0)", "order(1, -1)");
        withOrder("order, which of both").badArgument("order(0, 0)", "order(0, 5)", "order(0, -1)")
                .noSuch("order(1, 1)");
        withThirtyOrders("thirty, which of both").badArgument("order(1, 3)", "order(1, 5)", "order(1, -1)")
                .badArgument("order(0, 1)").noSuch("order(2, 1)", "order(-1, 1)", "order(2, 5)")
                .badState("order(0, 0)");
    }

    /** "IndexOutOfBoundsException if there is no such order". */
    private static void onlyOrdersThatAreAreStepped() {
        new Run("no order").after("begin(0, 5)").noSuch("step(0)", "force(0)", "step(-1)", "force(-1)");
        withOrder("one order").after("pass(14)")
                .noSuch("step(-1)", "step(1)", "step(" + MAX + ")", "step(" + MIN + ")")
                .noSuch("force(-1)", "force(1)", "force(" + MAX + ")", "force(" + MIN + ")").gives("force(0)", 11);
        withThirtyOrders("the last order").noSuch("step(-1)", "step(30)", "force(-1)", "force(30)")
                .gives("step(29)", 0);
    }

    private static void onlyOrdersThatAreAreAskedFor() {
        Run none = new Run("asking of none").after("begin(0, 5)");
        Run one = withOrder("asking of one");
        Run thirty = withThirtyOrders("asking of thirty");
        for (String question : QUESTIONS) {
            none.noSuch(question + "(0)", question + "(-1)");
            one.noSuch(question + "(-1)", question + "(1)", question + "(29)", question + "(" + MAX + ")");
            one.noSuch(question + "(" + MIN + ")").after(question + "(0)");
            thirty.noSuch(question + "(-1)", question + "(30)").after(question + "(29)");
        }
    }

    /** "IllegalStateException if it is done". */
    private static void ordersThatAreDoneAreNotStepped() {
        withOrder("done").after("step(0)", "step(0)", "step(0)").badState("step(0)", "force(0)", "due(0)")
                .gives("stage(0)", 3).after("pass(100)").badState("step(0)", "force(0)", "due(0)")
                .gives("late(0)", 0).gives("units(0)", 1000);
    }

    /** "the old provider answers, within 3 days of the order". */
    private static void anAnswerIsDueWithinThreeDays() {
        withOrder("answer at once").gives("step(0)", 0).gives("late(0)", 0);
        withOrder("answer on 3").after("pass(3)").gives("step(0)", 0).gives("late(0)", 0);
        withOrder("answer on 4").after("pass(4)").gives("step(0)", 1).gives("late(0)", 1);
    }

    /** "the old one sells all units, within 2 days of the answer". */
    private static void aSaleIsDueWithinTwoDays() {
        withOrder("sale at once").after("pass(3)", "step(0)").gives("step(0)", 0).gives("late(0)", 0);
        withOrder("sale after 2").after("pass(3)", "step(0)", "pass(2)").gives("step(0)", 0).gives("late(0)", 0);
        withOrder("sale after 3").after("step(0)", "pass(3)").gives("step(0)", 1).gives("late(0)", 1);
    }

    /** "the new one buys, within 2 days of the sale". */
    private static void aPurchaseIsDueWithinTwoDays() {
        withOrder("purchase at once").after("step(0)", "pass(2)", "step(0)").gives("step(0)", 0)
                .gives("late(0)", 0);
        withOrder("purchase after 2").after("step(0)", "pass(2)", "step(0)", "pass(2)").gives("step(0)", 0)
                .gives("late(0)", 0);
        withOrder("purchase after 3").after("step(0)", "step(0)", "pass(3)").gives("step(0)", 1)
                .gives("late(0)", 1);
    }

    private static void daysAreCountedFromTheStepAhead() {
        // An early answer gives the sale no more days, and a late one no fewer.
        withOrder("early answer").after("step(0)").gives("due(0)", 2).after("pass(5)").gives("step(0)", 3);
        withOrder("late answer").after("pass(9)").gives("step(0)", 6).gives("due(0)", 11).after("pass(2)")
                .gives("step(0)", 0)
                .gives("due(0)", 13).after("pass(2)").gives("step(0)", 0).gives("late(0)", 6);
    }

    /** The order of day 0 and each of its steps on day 2000. */
    private static void theLongestLateness() {
        withOrder("answer on 2000").afterTimes(20, "pass(100)").gives("step(0)", 1997).gives("due(0)", 2002)
                .gives("step(0)", 0).gives("step(0)", 0).gives("late(0)", 1997);
        withOrder("sale on 2000").after("step(0)").afterTimes(20, "pass(100)").gives("step(0)", 1998)
                .gives("late(0)", 1998);
        withOrder("purchase on 2000").after("step(0)", "step(0)").afterTimes(20, "pass(100)")
                .gives("force(0)", 1998)
                .gives("late(0)", 1998).gives("units(0)", 1000);
        new Run("order on 2000").after("begin(0, 5)").afterTimes(20, "pass(100)").after("order(0, 1)")
                .gives("due(0)", 2003)
                .gives("step(0)", 0).gives("due(0)", 2002).gives("step(0)", 0).gives("due(0)", 2002)
                .gives("step(0)", 0);
    }

    /** "A step that would be late by more than 10 days if it were done now can be forced". */
    private static void answersAreForcedIfMoreThanTenLate() {
        withOrder("forced answer").badState("force(0)").after("pass(3)").badState("force(0)").after("pass(1)")
                .badState("force(0)")
                .after("pass(9)").badState("force(0)").after("pass(1)").gives("force(0)", 11)
                .gives("stage(0)", 1).gives("late(0)", 11).gives("due(0)", 16).gives("units(0)", 1000);
    }

    private static void salesAreForcedIfMoreThanTenLate() {
        withOrder("forced sale").after("pass(2)", "step(0)").badState("force(0)").after("pass(2)")
                .badState("force(0)")
                .after("pass(10)").badState("force(0)").gives("money(0)", 0).after("pass(1)").gives("force(0)", 11)
                .gives("stage(0)", 2).gives("late(0)", 11).gives("due(0)", 17).gives("units(0)", 0);
    }

    private static void purchasesAreForcedIfMoreThanTenLate() {
        withOrder("forced purchase").after("pass(2)", "step(0)", "pass(1)", "step(0)").badState("force(0)")
                .after("pass(2)").badState("force(0)").after("pass(10)").badState("force(0)").gives("units(0)", 0)
                .after("pass(1)").gives("force(0)", 11)
                .gives("stage(0)", 3).gives("late(0)", 11).gives("units(0)", 1000).gives("provider(0)", 1);
    }

    private static void latenessOfStepsThatAreDoneForcesNothing() {
        withOrder("late ahead").after("pass(100)", "step(0)").gives("late(0)", 97).badState("force(0)")
                .after("pass(12)").badState("force(0)").after("step(0)").gives("late(0)", 107).badState("force(0)")
                .after("pass(12)").badState("force(0)").gives("step(0)", 10);
    }

    private static void lateStepsCanBeDoneUnforced() {
        withOrder("late, but done").after("pass(14)").gives("step(0)", 11).after("pass(13)").gives("step(0)", 11)
                .after("pass(100)").gives("step(0)", 98).gives("late(0)", 120);
    }

    /** "a sale or a purchase that is forced is made at the default price as it is now"; it "is not kept by days". */
    private static void whatIsForcedHasTheDefaultPriceOfNow() {
        withOrder("forced at the first default")
                .after("setPrice(0, 100)", "setPrice(1, 100)", "step(0)", "pass(13)", "force(0)")
                .gives("money(0)", 1000);
        withOrder("forced at the default")
                .after("setDefault(100)", "step(0)", "pass(12)", "setDefault(200)", "pass(1)",
                "setDefault(2000)", "force(0)").gives("money(0)", 2000)
                .after("setDefault(300)").gives("money(0)", 2000)
                .after("pass(13)", "setDefault(10000)", "setDefault(500)", "force(0)", "setDefault(700)")
                .gives("units(0)", 4000);
    }

    private static void whatIsNotForcedHasThePriceOfNow() {
        withOrder("at the price of now")
                .after("setDefault(100)", "setPrice(0, 300)", "step(0)", "pass(13)", "setPrice(0, 2000)")
                .gives("step(0)", 11).gives("money(0)", 2000)
                .after("setPrice(1, 900)", "pass(13)", "setPrice(1, 500)").gives("step(0)", 11)
                .gives("units(0)", 4000);
    }

    /** "Returns ANSWER, SALE, PURCHASE or DONE". */
    private static void stagesGoFromAnswerToDone() {
        withOrder("stages").gives("stage(0)", FundMoves.ANSWER).after("pass(50)")
                .gives("stage(0)", FundMoves.ANSWER)
                .after("step(0)").gives("stage(0)", FundMoves.SALE).after("pass(50)")
                .gives("stage(0)", FundMoves.SALE)
                .after("step(0)").gives("stage(0)", FundMoves.PURCHASE).after("pass(50)")
                .gives("stage(0)", FundMoves.PURCHASE)
                .after("step(0)").gives("stage(0)", FundMoves.DONE).after("pass(50)")
                .gives("stage(0)", FundMoves.DONE);
        withOrder("stages by force").after("pass(14)", "force(0)").gives("stage(0)", FundMoves.SALE)
                .after("pass(13)", "force(0)").gives("stage(0)", FundMoves.PURCHASE)
                .after("pass(13)", "force(0)").gives("stage(0)", FundMoves.DONE);
    }

    /** "Returns the last day on which the next step of an order is not late". */
    private static void dueIsTheLastDayThatIsNotLate() {
        withOrder("due").gives("due(0)", 3).after("pass(3)").gives("due(0)", 3).after("pass(1)")
                .gives("due(0)", 3);
        withOrder("due of all").after("pass(1)", "step(0)").gives("due(0)", 3).after("pass(5)", "step(0)")
                .gives("due(0)", 8)
                .after("pass(1)").gives("due(0)", 8).after("step(0)").badState("due(0)");
        withOrder("due when done").after("step(0)", "step(0)", "step(0)").badState("due(0)").noSuch("due(1)");
    }

    /** "by how many days the steps of an order that are done were late, together". */
    private static void lateCountsWhatIsDone() {
        withOrder("late").gives("late(0)", 0).after("pass(4)").gives("late(0)", 0).after("step(0)")
                .gives("late(0)", 1)
                .after("pass(4)").gives("late(0)", 1).after("step(0)").gives("late(0)", 3)
                .after("pass(5)").gives("late(0)", 3).after("step(0)").gives("late(0)", 6)
                .after("pass(100)").gives("late(0)", 6);
    }

    /** "Returns the money, 0 ahead of the sale". */
    private static void moneyIsNoneAheadOfTheSale() {
        withOrder("money").gives("money(0)", 0).after("step(0)").gives("money(0)", 0).after("step(0)")
                .gives("money(0)", 1000)
                .after("step(0)").gives("money(0)", 1000).after("order(0, 2)").gives("money(1)", 0)
                .gives("money(0)", 1000);
    }

    /** "the thousandths times the price of the old provider as it is then, divided by 1000, rounded down". */
    private static void moneyOfTheSaleIsRoundedDown() {
        String[] sale = {"order(0, 1)", "step(0)", "step(0)"};
        new Run("just below 1").after("begin(0, 1)", "setPrice(0, 999)").after(sale).gives("money(0)", 0);
        new Run("just 1").after("begin(0, 1)", "setPrice(0, 1000)").after(sale).gives("money(0)", 1);
        new Run("just below 2").after("begin(0, 1)", "setPrice(0, 1999)").after(sale).gives("money(0)", 1);
        new Run("just 10").after("begin(0, 1)", "setPrice(0, 10000)").after(sale).gives("money(0)", 10)
                .after("setPrice(1, 9999)", "step(0)").gives("units(0)", 1);
        new Run("bought below 1").after("begin(0, 1)").after(sale).gives("money(0)", 1)
                .after("setPrice(1, 1001)", "step(0)").gives("units(0)", 0).gives("madeGood(0)", 0);
    }

    private static void moneyOfTheMostUnitsAtTheHighestPrice() {
        new Run("most money").after("setPrice(0, 100)", "begin(0, 1000000)").afterTimes(9, "pay(0, 1000000)")
                .gives("units(0)", 100000000)
                .after("setPrice(0, 10000)", "setPrice(1, 10000)", "order(0, 1)", "step(0)", "step(0)")
                .gives("money(0)", 1000000000).after("step(0)").gives("units(0)", 100000000);
    }
}
