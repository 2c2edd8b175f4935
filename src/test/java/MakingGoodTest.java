/** Promises 12, 13 and 18 to 20: what is lacking, what it costs, and who pays for it. */
public final class MakingGoodTest {
    public static void main(String[] args) {
        onlyTheAnswerLate();
        onlyTheSaleLate();
        onlyThePurchaseLate();
        allStepsLate();
        nothingLateMakesNothingGood();
        moreThanTimelyMakesNothingGood();
        pricesAsTheyAreKnownAtThePurchase();
        costByThePriceAtThePurchase();
        costIsRoundedUpAndShareDown();
        forcedStepsAreReckonedByPricesOfProviders();
        costOfAForcedPurchaseByThePriceOfTheNewOne();
        madeGoodCountsForTheMost();
        madeGoodUpToTheMost();
        promise18MadeGood();
        promise19OwesIsNetted();
        promise19OwesIsAddedUp();
        promise19OwesRefusesOtherArguments();
        promise20Losses();
        promise20LossesRefusesOtherArguments();
        Check.end();
    }

    /** An object with saver 0 of provider 0 and the order 0 of it to provider 1, of the day 0. */
    private static FundMoves withOrder(int money) {
        FundMoves x = new FundMoves();
        x.begin(0, money);
        x.order(0, 1);
        return x;
    }

    private static void stepOn(FundMoves x, int order, int day) {
        if (day > x.today()) {
            x.pass(day - x.today());
        }
        x.step(order);
    }

    private static void setOn(FundMoves x, int provider, int price, int day) {
        if (day > x.today()) {
            x.pass(day - x.today());
        }
        x.setPrice(provider, price);
    }

    private static void expect(FundMoves x, long units, long madeGood, long owed, long lost) {
        Check.same("units(0)", units, x.units(0));
        Check.same("madeGood(0)", madeGood, x.madeGood(0));
        Check.same("owes(0, 1)", owed, x.owes(0, 1));
        Check.same("owes(1, 0)", -owed, x.owes(1, 0));
        Check.same("losses(1)", lost, x.losses(1));
        Check.same("losses(0)", 0, x.losses(0));
    }

    private static void onlyTheAnswerLate() {
        FundMoves x = withOrder(100000);
        stepOn(x, 0, 5);
        setOn(x, 0, 800, 6);
        stepOn(x, 0, 7);
        setOn(x, 1, 1250, 8);
        stepOn(x, 0, 9);
        // By timely steps: sold on 5 for 100000, bought on 7 at 1000; really 64000.
        expect(x, 100000, 36000, 45000, 0);
    }

    private static void onlyTheSaleLate() {
        FundMoves x = withOrder(100000);
        stepOn(x, 0, 3);
        setOn(x, 0, 900, 6);
        stepOn(x, 0, 9);
        setOn(x, 1, 1200, 8);
        stepOn(x, 0, 11);
        // By timely steps: sold on 5 at 1000, bought on 7 at 1000; really 90000 at 1200.
        expect(x, 100000, 25000, 30000, 0);
    }

    private static void onlyThePurchaseLate() {
        FundMoves x = withOrder(100000);
        stepOn(x, 0, 0);
        stepOn(x, 0, 0);
        setOn(x, 0, 5000, 1);
        setOn(x, 1, 1600, 3);
        stepOn(x, 0, 5);
        // By timely steps: sold on 0 at 1000, bought on 2 at 1000; really 62500.
        expect(x, 100000, 37500, 0, 60000);
    }

    private static void allStepsLate() {
        FundMoves x = withOrder(60000);
        stepOn(x, 0, 4);
        setOn(x, 1, 500, 7);
        setOn(x, 1, 400, 8);
        stepOn(x, 0, 8);
        stepOn(x, 0, 13);
        // Late by 1, 2 and 3: by timely steps bought on 7 at 500, which is less than at 400.
        Check.same("late(0)", 6, x.late(0));
        expect(x, 150000, 0, 0, 0);

        FundMoves y = withOrder(60000);
        setOn(y, 0, 2000, 3);
        stepOn(y, 0, 4);
        setOn(y, 0, 1000, 6);
        setOn(y, 1, 500, 7);
        setOn(y, 1, 750, 8);
        stepOn(y, 0, 8);
        stepOn(y, 0, 13);
        // Sold on 5 for 120000, bought on 7 for 240000; really 80000. 160000 cost 120000.
        expect(y, 240000, 160000, 60000, 60000);
    }

    private static void nothingLateMakesNothingGood() {
        FundMoves x = withOrder(1000);
        stepOn(x, 0, 3);
        stepOn(x, 0, 5);
        x.setPrice(0, 10000);
        setOn(x, 1, 10000, 6);
        stepOn(x, 0, 7);
        expect(x, 100, 0, 0, 0);
    }

    private static void moreThanTimelyMakesNothingGood() {
        FundMoves x = withOrder(1000);
        stepOn(x, 0, 4);
        setOn(x, 0, 1500, 6);
        stepOn(x, 0, 6);
        stepOn(x, 0, 9);
        Check.same("late(0)", 2, x.late(0));
        expect(x, 1500, 0, 0, 0);
        FundMoves y = withOrder(1000);
        stepOn(y, 0, 50);
        stepOn(y, 0, 50);
        stepOn(y, 0, 50);
        expect(y, 1000, 0, 0, 0);
    }

    private static void pricesAsTheyAreKnownAtThePurchase() {
        FundMoves x = withOrder(100000);
        stepOn(x, 0, 0);
        stepOn(x, 0, 0);
        x.setPrice(0, 2000);
        setOn(x, 1, 800, 2);
        setOn(x, 1, 1000, 3);
        stepOn(x, 0, 5);
        // The sale's own day has the price 2000 at last, though the sale was made at 1000.
        expect(x, 250000, 150000, 0, 150000);
        Check.same("money(0)", 100000, x.money(0));

        FundMoves y = withOrder(100000);
        stepOn(y, 0, 4);
        stepOn(y, 0, 6);
        setOn(y, 0, 3000, 6);
        stepOn(y, 0, 8);
        // The answer was late, so the timely sale is on 5, ahead of the change.
        expect(y, 100000, 0, 0, 0);
    }

    private static void costByThePriceAtThePurchase() {
        FundMoves x = withOrder(100000);
        stepOn(x, 0, 0);
        stepOn(x, 0, 0);
        setOn(x, 1, 9000, 5);
        x.setPrice(1, 2000);
        stepOn(x, 0, 5);
        x.setPrice(1, 4000);
        expect(x, 100000, 50000, 0, 100000);
    }

    private static void costIsRoundedUpAndShareDown() {
        FundMoves x = withOrder(7);
        stepOn(x, 0, 4);
        stepOn(x, 0, 6);
        setOn(x, 1, 1001, 8);
        stepOn(x, 0, 10);
        // One is lacking; it costs 2 by 1.001; the old one owes 2 * 1 / 3.
        expect(x, 7, 1, 0, 2);
        FundMoves y = withOrder(7);
        stepOn(y, 0, 5);
        stepOn(y, 0, 7);
        setOn(y, 1, 1999, 8);
        stepOn(y, 0, 10);
        // Four are lacking; they cost 8 by 7.996; the old one owes 8 * 2 / 3.
        expect(y, 7, 4, 5, 3);
        FundMoves z = withOrder(7);
        stepOn(z, 0, 5);
        stepOn(z, 0, 7);
        setOn(z, 1, 3500, 8);
        stepOn(z, 0, 10);
        // Five are lacking; they cost 18 by 17.5; the old one owes 18 * 2 / 3.
        expect(z, 7, 5, 12, 6);
    }

    private static void forcedStepsAreReckonedByPricesOfProviders() {
        FundMoves x = withOrder(100000);
        x.setDefault(500);
        x.pass(14);
        x.force(0);
        x.pass(13);
        x.force(0);
        Check.same("money(0)", 50000, x.money(0));
        x.setDefault(2000);
        x.pass(13);
        x.force(0);
        Check.same("late(0)", 33, x.late(0));
        // 25000 by the default prices, 100000 by those of the providers; 75000 * 22 / 33.
        expect(x, 100000, 75000, 50000, 25000);
    }

    private static void costOfAForcedPurchaseByThePriceOfTheNewOne() {
        FundMoves x = withOrder(100000);
        stepOn(x, 0, 0);
        stepOn(x, 0, 0);
        x.setDefault(10000);
        setOn(x, 1, 3000, 13);
        x.force(0);
        expect(x, 100000, 90000, 0, 270000);
    }

    private static void madeGoodCountsForTheMost() {
        FundMoves x = new FundMoves();
        x.setPrice(0, 100);
        x.begin(0, 1000000);
        x.setPrice(0, 10000);
        x.setPrice(1, 999);
        x.order(0, 1);
        stepOn(x, 0, 4);
        stepOn(x, 0, 6);
        setOn(x, 1, 1000, 9);
        x.pass(2);
        // Bought are just the most; by timely steps it would be 100100100.
        Check.badState("purchase of too much with what is made good", () -> x.step(0));
        x.pass(20);
        Check.badState("the same by force at the default price", () -> x.force(0));
        Check.same("stage(0)", 2, x.stage(0));
        Check.same("late(0)", 1, x.late(0));
        Check.same("due(0)", 8, x.due(0));
        Check.same("money(0)", 100000000, x.money(0));
        Check.same("provider(0)", 0, x.provider(0));
        expect(x, 0, 0, 0, 0);
        Check.badState("pay", () -> x.pay(0, 1));
    }

    private static void madeGoodUpToTheMost() {
        FundMoves x = new FundMoves();
        x.setPrice(0, 100);
        x.begin(0, 1000000);
        x.setPrice(0, 10000);
        x.order(0, 1);
        stepOn(x, 0, 0);
        stepOn(x, 0, 0);
        setOn(x, 1, 10000, 3);
        stepOn(x, 0, 5);
        expect(x, 100000000, 90000000, 0, 900000000);
    }

    private static void promise18MadeGood() {
        FundMoves x = withOrder(100000);
        stepOn(x, 0, 13);
        Check.same("madeGood ahead of the sale", 0, x.madeGood(0));
        setOn(x, 0, 100, 14);
        stepOn(x, 0, 14);
        Check.same("madeGood ahead of the purchase", 0, x.madeGood(0));
        Check.same("units ahead of the purchase", 0, x.units(0));
        stepOn(x, 0, 14);
        Check.same("madeGood after the purchase", 90000, x.madeGood(0));
        Check.same("money stays what the sale brought", 10000, x.money(0));
        x.order(0, 2);
        Check.same("madeGood of the next order", 0, x.madeGood(1));
        x.step(1);
        x.step(1);
        x.step(1);
        Check.same("madeGood of the next order when done", 0, x.madeGood(1));
        Check.same("madeGood of the first order", 90000, x.madeGood(0));
    }

    private static void promise19OwesIsNetted() {
        FundMoves x = new FundMoves();
        x.begin(2, 1000);
        x.begin(3, 1000);
        x.begin(2, 500);
        x.order(0, 3);
        x.order(1, 2);
        x.order(2, 4);
        x.pass(4);
        for (int i = 0; i < 3; i++) {
            x.step(i);
        }
        x.pass(1);
        for (int i = 0; i < 3; i++) {
            x.step(i);
        }
        // All were late by the answer alone; timely is day 4 with every price still 1000.
        x.setPrice(2, 2000);
        x.setPrice(3, 4000);
        x.setPrice(4, 4000);
        x.step(0);
        Check.same("owes(2, 3) by the first", 3000, x.owes(2, 3));
        Check.same("owes(3, 2) by the first", -3000, x.owes(3, 2));
        x.step(1);
        Check.same("owes(2, 3) netted", 2000, x.owes(2, 3));
        Check.same("owes(3, 2) netted", -2000, x.owes(3, 2));
        x.step(2);
        Check.same("owes(2, 4)", 1500, x.owes(2, 4));
        Check.same("owes(4, 2)", -1500, x.owes(4, 2));
        Check.same("owes(3, 4)", 0, x.owes(3, 4));
        for (int i = 0; i < 5; i++) {
            Check.same("owes itself", 0, x.owes(i, i));
        }
        x.order(2, 2);
        x.pass(4);
        x.step(3);
        x.pass(1);
        x.setPrice(4, 400);
        x.step(3);
        x.step(3);
        // Of 500 at 4000 are 2000; really sold at 400 for 200, bought at 2000: 100, not 1000.
        Check.same("madeGood(3)", 900, x.madeGood(3));
        Check.same("owes(4, 2) then", 300, x.owes(4, 2));
        Check.same("owes(2, 4) then", -300, x.owes(2, 4));
        Check.same("owes(2, 3) stays", 2000, x.owes(2, 3));
    }

    private static void promise19OwesIsAddedUp() {
        FundMoves x = new FundMoves();
        x.begin(0, 1000);
        x.begin(0, 300);
        x.order(0, 1);
        x.order(1, 1);
        x.pass(4);
        x.step(0);
        x.step(1);
        x.pass(1);
        x.setPrice(0, 500);
        for (int i = 0; i < 2; i++) {
            x.step(i);
            x.step(i);
        }
        Check.same("madeGood(0)", 500, x.madeGood(0));
        Check.same("madeGood(1)", 150, x.madeGood(1));
        Check.same("owes(0, 1), added up", 650, x.owes(0, 1));
        Check.same("owes(1, 0), added up", -650, x.owes(1, 0));
    }

    private static void promise19OwesRefusesOtherArguments() {
        FundMoves x = new FundMoves();
        int[] others = {-1, 5, Integer.MAX_VALUE, Integer.MIN_VALUE};
        for (int other : others) {
            Check.badArgument("owes(" + other + ", 0)", () -> x.owes(other, 0));
            Check.badArgument("owes(0, " + other + ")", () -> x.owes(0, other));
            Check.badArgument("owes(" + other + ", itself)", () -> x.owes(other, other));
        }
    }

    private static void promise20Losses() {
        FundMoves x = new FundMoves();
        x.begin(0, 1000);
        x.begin(4, 1000);
        x.order(0, 1);
        x.order(1, 1);
        x.step(0);
        x.step(0);
        x.step(1);
        x.step(1);
        x.pass(3);
        x.setPrice(1, 2000);
        x.step(0);
        Check.same("losses(1)", 1000, x.losses(1));
        x.step(1);
        Check.same("losses(1), added up", 2000, x.losses(1));
        Check.same("losses of an old one", 0, x.losses(0));
        Check.same("losses of the other old one", 0, x.losses(4));
        Check.same("owes(0, 1)", 0, x.owes(0, 1));
        Check.same("owes(4, 1)", 0, x.owes(4, 1));
    }

    private static void promise20LossesRefusesOtherArguments() {
        FundMoves x = new FundMoves();
        int[] others = {-1, 5, Integer.MAX_VALUE, Integer.MIN_VALUE};
        for (int other : others) {
            Check.badArgument("losses(" + other + ")", () -> x.losses(other));
        }
    }
}
