/** Promises 11 to 17: orders and their steps, by which nothing is to be made good. */
public final class OrdersTest {
    private static final int[] NO_ORDERS = {-1, 1, 29, 30, Integer.MAX_VALUE, Integer.MIN_VALUE};

    public static void main(String[] args) {
        promise11OrderRefusals();
        promise11OneOrderOfASaverAtATime();
        promise11ThirtyOrders();
        promise12StepsOnTime();
        promise12LatenessOfEachStep();
        promise12StepRefusals();
        promise12PurchaseOfTooMuch();
        promise13ForceOnlyWhatIsLate();
        promise13ForceAtTheDefaultPrice();
        promise13ForceRefusals();
        promise13ForcedPurchaseOfTooMuch();
        promise14Stage();
        promise15Due();
        promise16Late();
        promise17Money();
        everyQuestionRefusesAnOrderThatIsNone();
        constants();
        Check.end();
    }

    /** An object with saver 0 of provider 0 and the order 0 of it to provider 1. */
    private static FundMoves withOrder(int money) {
        FundMoves x = new FundMoves();
        x.begin(0, money);
        x.order(0, 1);
        return x;
    }

    private static void promise11OrderRefusals() {
        FundMoves x = new FundMoves();
        Check.noSuch("order of no saver", () -> x.order(0, 1));
        x.begin(2, 10);
        int[] otherSavers = {-1, 1, 10, Integer.MAX_VALUE, Integer.MIN_VALUE};
        for (int saver : otherSavers) {
            Check.noSuch("order of " + saver, () -> x.order(saver, 1));
            Check.noSuch("order of " + saver + " to none", () -> x.order(saver, 5));
        }
        int[] otherProviders = {-1, 5, 2, Integer.MAX_VALUE, Integer.MIN_VALUE};
        for (int to : otherProviders) {
            Check.badArgument("order to " + to, () -> x.order(0, to));
        }
        Check.noSuch("stage(0)", () -> x.stage(0));
        Check.same("pay", 5, x.pay(0, 5));
        Check.same("order(0, 0)", 0, x.order(0, 0));
    }

    private static void promise11OneOrderOfASaverAtATime() {
        FundMoves x = withOrder(100);
        x.begin(0, 100);
        for (int i = 0; i < 3; i++) {
            Check.badState("order(0, 2) at stage " + i, () -> x.order(0, 2));
            Check.badState("order(0, 1) at stage " + i, () -> x.order(0, 1));
            Check.badArgument("order(0, 0) at stage " + i, () -> x.order(0, 0));
            Check.badArgument("order(0, 5) at stage " + i, () -> x.order(0, 5));
            x.step(0);
        }
        Check.badArgument("order to the new one", () -> x.order(0, 1));
        Check.same("order back", 1, x.order(0, 0));
        Check.same("order of another saver", 2, x.order(1, 4));
    }

    private static void promise11ThirtyOrders() {
        FundMoves x = new FundMoves();
        x.begin(0, 1000);
        x.begin(3, 1000);
        for (int i = 0; i < 29; i++) {
            Check.same("order " + i, i, x.order(0, (i + 1) % 2));
            x.step(i);
            x.step(i);
            x.step(i);
        }
        Check.same("the 30th order", 29, x.order(0, 0));
        Check.badState("a 31st order of another saver", () -> x.order(1, 0));
        Check.badArgument("a 31st order to none", () -> x.order(1, 5));
        Check.badArgument("a 31st order to the same", () -> x.order(1, 3));
        Check.noSuch("a 31st order of none", () -> x.order(2, 0));
        Check.same("pay of the other saver", 1, x.pay(1, 1));
        x.step(29);
        x.step(29);
        x.step(29);
        Check.badState("a 31st order", () -> x.order(0, 1));
        Check.same("stage of the first", 3, x.stage(0));
        Check.same("stage of the last", 3, x.stage(29));
        Check.noSuch("stage(30)", () -> x.stage(30));
        Check.same("units(0)", 1000, x.units(0));
    }

    private static void promise12StepsOnTime() {
        FundMoves x = withOrder(1000);
        x.setPrice(0, 3333);
        x.setPrice(1, 700);
        x.pass(3);
        Check.same("answer", 0, x.step(0));
        x.pass(2);
        Check.same("sale", 0, x.step(0));
        Check.same("money(0)", 3333, x.money(0));
        Check.same("units(0)", 0, x.units(0));
        Check.same("provider(0)", 0, x.provider(0));
        x.pass(2);
        Check.same("purchase", 0, x.step(0));
        Check.same("units(0)", 4761, x.units(0));
        Check.same("provider(0)", 1, x.provider(0));
        Check.same("late(0)", 0, x.late(0));
        Check.same("madeGood(0)", 0, x.madeGood(0));
    }

    private static void promise12LatenessOfEachStep() {
        FundMoves x = new FundMoves();
        x.begin(0, 1000);
        x.begin(0, 1000);
        x.pass(10);
        x.order(0, 1);
        x.order(1, 1);
        x.pass(4);
        Check.same("answer", 1, x.step(0));
        x.pass(4);
        Check.same("sale", 2, x.step(0));
        x.pass(5);
        Check.same("purchase", 3, x.step(0));
        Check.same("the other's answer", 10, x.step(1));
        x.pass(2);
        Check.same("the other's sale", 0, x.step(1));
        x.pass(100);
        Check.same("the other's purchase", 98, x.step(1));
        Check.same("late(0)", 6, x.late(0));
        Check.same("late(1)", 108, x.late(1));
    }

    private static void promise12StepRefusals() {
        FundMoves x = withOrder(10);
        for (int order : NO_ORDERS) {
            Check.noSuch("step(" + order + ")", () -> x.step(order));
        }
        Check.same("stage(0)", 0, x.stage(0));
        x.step(0);
        x.step(0);
        x.step(0);
        Check.badState("step of one that is done", () -> x.step(0));
        Check.same("stage(0)", 3, x.stage(0));
        Check.same("units(0)", 10, x.units(0));
    }

    private static void promise12PurchaseOfTooMuch() {
        FundMoves x = new FundMoves();
        x.begin(0, 1000000);
        x.setPrice(0, 10000);
        x.order(0, 1);
        x.step(0);
        x.step(0);
        Check.same("money(0)", 10000000, x.money(0));
        x.setPrice(1, 100);
        x.step(0);
        Check.same("units at the most", 100000000, x.units(0));
        x.setPrice(1, 1000);
        x.setPrice(2, 999);
        x.order(0, 2);
        x.step(1);
        x.step(1);
        Check.badState("purchase above the most", () -> x.step(1));
        Check.same("stage(1)", 2, x.stage(1));
        Check.same("units(0)", 0, x.units(0));
        Check.same("provider(0)", 1, x.provider(0));
        Check.same("money(1)", 100000000, x.money(1));
        x.setPrice(2, 1001);
        Check.same("purchase", 0, x.step(1));
        Check.same("units(0)", 99900099, x.units(0));
    }

    private static void promise13ForceOnlyWhatIsLate() {
        FundMoves x = withOrder(1000);
        Check.badState("force on the day", () -> x.force(0));
        x.pass(13);
        Check.badState("force of an answer 10 late", () -> x.force(0));
        Check.same("stage(0)", 0, x.stage(0));
        x.pass(1);
        Check.same("force of an answer 11 late", 11, x.force(0));
        Check.same("stage(0)", 1, x.stage(0));
        Check.same("units(0)", 1000, x.units(0));
        Check.badState("force of a sale at once", () -> x.force(0));
        x.pass(12);
        Check.badState("force of a sale 10 late", () -> x.force(0));
        Check.same("money(0)", 0, x.money(0));
        x.pass(1);
        Check.same("force of a sale 11 late", 11, x.force(0));
        x.pass(12);
        Check.badState("force of a purchase 10 late", () -> x.force(0));
        Check.same("stage(0)", 2, x.stage(0));
        x.pass(5);
        Check.same("force of a purchase 15 late", 15, x.force(0));
        Check.same("late(0)", 37, x.late(0));
        Check.same("stage(0)", 3, x.stage(0));
        Check.same("provider(0)", 1, x.provider(0));
    }

    private static void promise13ForceAtTheDefaultPrice() {
        FundMoves x = withOrder(1000);
        x.setPrice(0, 500);
        x.setPrice(1, 10000);
        x.setDefault(700);
        x.step(0);
        x.pass(13);
        x.setDefault(3333);
        x.force(0);
        Check.same("money of a forced sale", 3333, x.money(0));
        x.pass(13);
        x.setDefault(600);
        x.force(0);
        Check.same("units by a forced purchase", 5555, x.units(0));
        Check.same("madeGood(0)", 0, x.madeGood(0));
        Check.same("price of the new one", 10000, x.price(1, 26));
        FundMoves y = withOrder(1000);
        y.setDefault(5000);
        y.setPrice(0, 200);
        y.setPrice(1, 10000);
        y.step(0);
        y.pass(13);
        Check.same("a late step by itself", 11, y.step(0));
        Check.same("money by the price of the old one", 200, y.money(0));
    }

    private static void promise13ForceRefusals() {
        FundMoves x = withOrder(10);
        x.pass(100);
        for (int order : NO_ORDERS) {
            Check.noSuch("force(" + order + ")", () -> x.force(order));
        }
        Check.same("stage(0)", 0, x.stage(0));
        x.step(0);
        x.step(0);
        x.step(0);
        x.pass(100);
        Check.badState("force of one that is done", () -> x.force(0));
        Check.same("late(0)", 97, x.late(0));
    }

    private static void promise13ForcedPurchaseOfTooMuch() {
        FundMoves x = new FundMoves();
        x.setPrice(0, 100);
        x.begin(0, 1000000);
        x.setPrice(0, 10000);
        x.setPrice(1, 10000);
        x.order(0, 1);
        x.step(0);
        x.step(0);
        Check.same("money(0)", 100000000, x.money(0));
        x.pass(13);
        x.setDefault(999);
        Check.badState("forced purchase of too much", () -> x.force(0));
        Check.same("stage(0)", 2, x.stage(0));
        Check.same("late(0)", 0, x.late(0));
        Check.same("units(0)", 0, x.units(0));
        Check.same("provider(0)", 0, x.provider(0));
        x.setDefault(1000);
        Check.same("forced purchase of the most", 11, x.force(0));
        Check.same("units(0)", 100000000, x.units(0));
    }

    private static void promise14Stage() {
        FundMoves x = withOrder(10);
        Check.same("stage at first", FundMoves.ANSWER, x.stage(0));
        x.step(0);
        Check.same("stage after the answer", FundMoves.SALE, x.stage(0));
        x.step(0);
        Check.same("stage after the sale", FundMoves.PURCHASE, x.stage(0));
        x.step(0);
        Check.same("stage after the purchase", FundMoves.DONE, x.stage(0));
        x.order(0, 2);
        Check.same("stage of the next order", FundMoves.ANSWER, x.stage(1));
        Check.same("stage of the first one", FundMoves.DONE, x.stage(0));
    }

    private static void promise15Due() {
        FundMoves x = new FundMoves();
        x.begin(0, 10);
        x.pass(7);
        x.order(0, 1);
        Check.same("due of the answer", 10, x.due(0));
        x.pass(1);
        Check.same("due of the answer a day later", 10, x.due(0));
        x.step(0);
        Check.same("due of the sale", 10, x.due(0));
        x.pass(20);
        Check.same("due of a late sale", 10, x.due(0));
        x.step(0);
        Check.same("due of the purchase", 30, x.due(0));
        x.step(0);
        Check.badState("due of one that is done", () -> x.due(0));
        for (int i = 0; i < 19; i++) {
            x.pass(100);
        }
        x.pass(72);
        x.order(0, 2);
        Check.same("due behind the last day", 2003, x.due(1));
    }

    private static void promise16Late() {
        FundMoves x = withOrder(10);
        x.pass(50);
        Check.same("late ahead of the answer", 0, x.late(0));
        x.step(0);
        Check.same("late after the answer", 47, x.late(0));
        x.pass(50);
        Check.same("late ahead of the sale", 47, x.late(0));
        x.step(0);
        Check.same("late after the sale", 95, x.late(0));
        x.pass(1);
        x.step(0);
        Check.same("late after the purchase", 95, x.late(0));
        x.pass(50);
        Check.same("late later on", 95, x.late(0));
        x.order(0, 3);
        Check.same("late of the next order", 0, x.late(1));
    }

    private static void promise17Money() {
        FundMoves x = withOrder(1001);
        x.setPrice(0, 1999);
        Check.same("money ahead of the answer", 0, x.money(0));
        x.step(0);
        Check.same("money ahead of the sale", 0, x.money(0));
        x.step(0);
        Check.same("money of the sale, rounded down", 2000, x.money(0));
        x.setPrice(0, 5000);
        x.setPrice(1, 3000);
        x.step(0);
        Check.same("money after the purchase", 2000, x.money(0));
        Check.same("units(0), rounded down", 666, x.units(0));
        x.order(0, 2);
        Check.same("money of the next order", 0, x.money(1));
    }

    private static void everyQuestionRefusesAnOrderThatIsNone() {
        FundMoves empty = new FundMoves();
        Check.noSuch("step(0)", () -> empty.step(0));
        Check.noSuch("force(0)", () -> empty.force(0));
        FundMoves x = withOrder(10);
        for (int order : NO_ORDERS) {
            Check.noSuch("stage(" + order + ")", () -> x.stage(order));
            Check.noSuch("due(" + order + ")", () -> x.due(order));
            Check.noSuch("late(" + order + ")", () -> x.late(order));
            Check.noSuch("money(" + order + ")", () -> x.money(order));
            Check.noSuch("madeGood(" + order + ")", () -> x.madeGood(order));
        }
    }

    private static void constants() {
        Check.same("ANSWER", 0, FundMoves.ANSWER);
        Check.same("SALE", 1, FundMoves.SALE);
        Check.same("PURCHASE", 2, FundMoves.PURCHASE);
        Check.same("DONE", 3, FundMoves.DONE);
    }
}
