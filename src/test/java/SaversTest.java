/** Promises 7 to 10: savers. */
public final class SaversTest {
    public static void main(String[] args) {
        promise7BeginAtThePriceOfToday();
        promise7BeginRefusesOtherArguments();
        promise7TenSavers();
        promise8PayAtThePriceOfToday();
        promise8PayRefusals();
        promise8PayWhileAnOrderGoesOn();
        promise8PayUpToTheMost();
        promise9Units();
        promise10Provider();
        Check.end();
    }

    private static void promise7BeginAtThePriceOfToday() {
        FundMoves x = new FundMoves();
        Check.same("begin(0, 0)", 0, x.begin(0, 0));
        Check.same("units(0)", 0, x.units(0));
        x.setPrice(1, 300);
        Check.same("begin(1, 100)", 1, x.begin(1, 100));
        Check.same("units(1), rounded down", 333, x.units(1));
        x.pass(1);
        x.setPrice(1, 100);
        Check.same("begin(1, 1000000)", 2, x.begin(1, 1000000));
        Check.same("units(2)", 10000000, x.units(2));
        x.setPrice(1, 10000);
        Check.same("begin(1, 9)", 3, x.begin(1, 9));
        Check.same("units(3), rounded down to nothing", 0, x.units(3));
        Check.same("begin(4, 1)", 4, x.begin(4, 1));
        Check.same("units(4)", 1, x.units(4));
        Check.same("units(1) stay", 333, x.units(1));
    }

    private static void promise7BeginRefusesOtherArguments() {
        FundMoves x = new FundMoves();
        int[] otherProviders = {-1, 5, Integer.MAX_VALUE, Integer.MIN_VALUE};
        for (int provider : otherProviders) {
            Check.badArgument("begin with " + provider, () -> x.begin(provider, 10));
        }
        int[] otherSums = {-1, 1000001, Integer.MAX_VALUE, Integer.MIN_VALUE};
        for (int money : otherSums) {
            Check.badArgument("begin with money " + money, () -> x.begin(0, money));
        }
        Check.noSuch("units(0)", () -> x.units(0));
        Check.same("begin(0, 10)", 0, x.begin(0, 10));
    }

    private static void promise7TenSavers() {
        FundMoves x = new FundMoves();
        for (int i = 0; i < 10; i++) {
            Check.same("begin " + i, i, x.begin(i % 5, i));
        }
        Check.badState("an 11th saver", () -> x.begin(0, 10));
        Check.badArgument("an 11th saver with no provider", () -> x.begin(5, 10));
        Check.badArgument("an 11th saver with wrong money", () -> x.begin(0, -1));
        Check.noSuch("units(10)", () -> x.units(10));
        for (int i = 0; i < 10; i++) {
            Check.same("units of " + i, i, x.units(i));
            Check.same("provider of " + i, i % 5, x.provider(i));
        }
    }

    private static void promise8PayAtThePriceOfToday() {
        FundMoves x = new FundMoves();
        x.begin(0, 50);
        x.begin(1, 70);
        x.setPrice(0, 700);
        Check.same("pay(0, 3)", 4, x.pay(0, 3));
        Check.same("units(0)", 54, x.units(0));
        Check.same("units(1)", 70, x.units(1));
        x.pass(1);
        x.setPrice(0, 9999);
        Check.same("pay(0, 1)", 0, x.pay(0, 1));
        Check.same("pay(0, 1000000)", 100010, x.pay(0, 1000000));
        Check.same("pay(1, 1000000)", 1000000, x.pay(1, 1000000));
        Check.same("units(0)", 100064, x.units(0));
        Check.same("units(1)", 1000070, x.units(1));
    }

    private static void promise8PayRefusals() {
        FundMoves x = new FundMoves();
        x.begin(0, 50);
        int[] otherSavers = {-1, 1, 10, Integer.MAX_VALUE, Integer.MIN_VALUE};
        for (int saver : otherSavers) {
            Check.noSuch("pay of " + saver, () -> x.pay(saver, 5));
            Check.noSuch("pay of " + saver + " with wrong money", () -> x.pay(saver, 0));
        }
        int[] otherSums = {0, -1, 1000001, Integer.MAX_VALUE, Integer.MIN_VALUE};
        for (int money : otherSums) {
            Check.badArgument("pay of " + money, () -> x.pay(0, money));
        }
        Check.same("units(0)", 50, x.units(0));
    }

    private static void promise8PayWhileAnOrderGoesOn() {
        FundMoves x = new FundMoves();
        x.begin(0, 50);
        x.begin(0, 60);
        x.order(0, 1);
        for (int i = 0; i < 3; i++) {
            Check.badState("pay at stage " + i, () -> x.pay(0, 5));
            Check.badArgument("pay of nothing at stage " + i, () -> x.pay(0, 0));
            Check.same("pay of another at stage " + i, 1, x.pay(1, 1));
            x.step(0);
        }
        Check.same("units(0)", 50, x.units(0));
        Check.same("pay when the order is done", 5, x.pay(0, 5));
        Check.same("units(0)", 55, x.units(0));
        Check.same("units(1)", 63, x.units(1));
    }

    private static void promise8PayUpToTheMost() {
        FundMoves x = new FundMoves();
        x.setPrice(2, 100);
        x.begin(2, 999999);
        for (int i = 0; i < 9; i++) {
            Check.same("pay " + i, 10000000, x.pay(0, 1000000));
        }
        Check.same("units(0)", 99999990, x.units(0));
        Check.badState("pay(0, 2)", () -> x.pay(0, 2));
        Check.badArgument("pay(0, 0)", () -> x.pay(0, 0));
        Check.same("units(0) stay", 99999990, x.units(0));
        Check.same("pay(0, 1)", 10, x.pay(0, 1));
        Check.same("units(0)", 100000000, x.units(0));
        Check.badState("pay(0, 1)", () -> x.pay(0, 1));
        x.setPrice(2, 10000);
        Check.same("pay that gives nothing", 0, x.pay(0, 9));
        Check.badState("pay that gives one", () -> x.pay(0, 10));
        Check.same("units(0) at last", 100000000, x.units(0));
    }

    private static void promise9Units() {
        FundMoves x = new FundMoves();
        int[] others = {-1, 0, 9, 10, Integer.MAX_VALUE, Integer.MIN_VALUE};
        for (int saver : others) {
            Check.noSuch("units of " + saver, () -> x.units(saver));
        }
        x.begin(0, 77);
        x.setPrice(0, 2000);
        Check.same("units stay by a new price", 77, x.units(0));
        Check.noSuch("units(1)", () -> x.units(1));
        x.setPrice(1, 500);
        x.order(0, 1);
        Check.same("units ahead of the answer", 77, x.units(0));
        x.step(0);
        Check.same("units ahead of the sale", 77, x.units(0));
        x.step(0);
        Check.same("units ahead of the purchase", 0, x.units(0));
        x.step(0);
        Check.same("units after the purchase", 308, x.units(0));
    }

    private static void promise10Provider() {
        FundMoves x = new FundMoves();
        int[] others = {-1, 0, 9, 10, Integer.MAX_VALUE, Integer.MIN_VALUE};
        for (int saver : others) {
            Check.noSuch("provider of " + saver, () -> x.provider(saver));
        }
        x.begin(3, 77);
        x.begin(2, 77);
        Check.same("provider(0)", 3, x.provider(0));
        Check.same("provider(1)", 2, x.provider(1));
        x.order(0, 4);
        for (int i = 0; i < 3; i++) {
            Check.same("provider at stage " + i, 3, x.provider(0));
            x.step(0);
        }
        Check.same("provider after the purchase", 4, x.provider(0));
        Check.same("provider(1) stays", 2, x.provider(1));
    }
}
