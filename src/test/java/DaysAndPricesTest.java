/** Promises 1 to 6: a new object, days and prices. */
public final class DaysAndPricesTest {
    public static void main(String[] args) {
        promise1NewObject();
        promise2PassAnswersTheDay();
        promise2PassRefusesOtherNumbers();
        promise2PassEndsAtTheLastDay();
        promise3Today();
        promise4SetPriceAnswersTheOneBefore();
        promise4SetPriceRefusesOtherArguments();
        promise4PricesAreCounted();
        promise4PriceOfTheFirstDayIsChangedWithoutCounting();
        promise4SamePriceOnALaterDayIsCounted();
        promise5PriceByDay();
        promise5PriceRefusesOtherArguments();
        promise6SetDefault();
        Check.end();
    }

    private static void promise1NewObject() {
        FundMoves x = new FundMoves();
        Check.same("today()", 0, x.today());
        Check.noSuch("units(0)", () -> x.units(0));
        Check.noSuch("stage(0)", () -> x.stage(0));
        for (int i = 0; i < 5; i++) {
            Check.same("price of " + i, 1000, x.price(i, 0));
            Check.same("losses of " + i, 0, x.losses(i));
            for (int j = 0; j < 5; j++) {
                Check.same("owes(" + i + ", " + j + ")", 0, x.owes(i, j));
            }
        }
        FundMoves other = new FundMoves();
        x.pass(5);
        x.setPrice(0, 500);
        x.begin(0, 100);
        Check.same("today() of another object", 0, other.today());
        Check.same("price of another object", 1000, other.price(0, 0));
        Check.noSuch("units(0) of another object", () -> other.units(0));
    }

    private static void promise2PassAnswersTheDay() {
        FundMoves x = new FundMoves();
        Check.same("pass(1)", 1, x.pass(1));
        Check.same("pass(100)", 101, x.pass(100));
        Check.same("pass(7)", 108, x.pass(7));
        Check.same("today()", 108, x.today());
    }

    private static void promise2PassRefusesOtherNumbers() {
        FundMoves x = new FundMoves();
        x.pass(10);
        int[] others = {0, -1, 101, Integer.MAX_VALUE, Integer.MIN_VALUE};
        for (int days : others) {
            Check.badArgument("pass(" + days + ")", () -> x.pass(days));
        }
        Check.same("today()", 10, x.today());
    }

    private static void promise2PassEndsAtTheLastDay() {
        FundMoves x = new FundMoves();
        for (int i = 0; i < 19; i++) {
            x.pass(100);
        }
        Check.same("pass(99)", 1999, x.pass(99));
        Check.badState("pass(2) on 1999", () -> x.pass(2));
        Check.same("today()", 1999, x.today());
        Check.same("pass(1)", 2000, x.pass(1));
        Check.badState("pass(1) on 2000", () -> x.pass(1));
        Check.badArgument("pass(0) on 2000", () -> x.pass(0));
        Check.badArgument("pass(101) on 2000", () -> x.pass(101));
        Check.badArgument("pass(MAX) on 2000", () -> x.pass(Integer.MAX_VALUE));
        Check.same("today()", 2000, x.today());
        Check.same("setPrice on the last day", 1000, x.setPrice(0, 700));
        Check.same("price on the last day", 700, x.price(0, 2000));
    }

    private static void promise3Today() {
        FundMoves x = new FundMoves();
        Check.same("today()", 0, x.today());
        x.pass(42);
        Check.same("today()", 42, x.today());
        x.setPrice(1, 300);
        x.begin(1, 10);
        x.order(0, 2);
        x.step(0);
        Check.same("today()", 42, x.today());
    }

    private static void promise4SetPriceAnswersTheOneBefore() {
        FundMoves x = new FundMoves();
        Check.same("setPrice(0, 100)", 1000, x.setPrice(0, 100));
        Check.same("setPrice(0, 10000)", 100, x.setPrice(0, 10000));
        Check.same("setPrice(4, 101)", 1000, x.setPrice(4, 101));
        x.pass(1);
        Check.same("setPrice(0, 500)", 10000, x.setPrice(0, 500));
        Check.same("setPrice(0, 600)", 500, x.setPrice(0, 600));
        Check.same("setPrice(1, 700)", 1000, x.setPrice(1, 700));
        Check.same("price(0, 0)", 10000, x.price(0, 0));
        Check.same("price(0, 1)", 600, x.price(0, 1));
    }

    private static void promise4SetPriceRefusesOtherArguments() {
        FundMoves x = new FundMoves();
        int[] otherProviders = {-1, 5, Integer.MAX_VALUE, Integer.MIN_VALUE};
        for (int provider : otherProviders) {
            Check.badArgument("setPrice of " + provider, () -> x.setPrice(provider, 500));
        }
        int[] otherPrices = {99, 10001, 0, -100, Integer.MAX_VALUE, Integer.MIN_VALUE};
        for (int price : otherPrices) {
            Check.badArgument("setPrice to " + price, () -> x.setPrice(2, price));
        }
        for (int i = 0; i < 5; i++) {
            Check.same("price of " + i, 1000, x.price(i, 0));
        }
    }

    private static void promise4PricesAreCounted() {
        FundMoves x = new FundMoves();
        for (int i = 1; i <= 60; i++) {
            x.pass(1);
            Check.same("setPrice " + i, i == 1 ? 1000 : 200 + i - 1, x.setPrice(3, 200 + i));
        }
        Check.same("change of the 61st on its day", 260, x.setPrice(3, 999));
        Check.same("change of it again", 999, x.setPrice(3, 260));
        x.pass(1);
        Check.badState("a 62nd price", () -> x.setPrice(3, 300));
        Check.badArgument("a 62nd price out of range", () -> x.setPrice(3, 99));
        Check.same("the price stays", 260, x.price(3, 61));
        Check.same("the price before stays", 260, x.price(3, 60));
        Check.same("an early price stays", 230, x.price(3, 30));
        Check.same("the first price stays", 1000, x.price(3, 0));
        x.pass(100);
        Check.badState("a 62nd price later", () -> x.setPrice(3, 300));
        Check.same("another provider's price", 1000, x.setPrice(2, 300));
    }

    private static void promise4PriceOfTheFirstDayIsChangedWithoutCounting() {
        FundMoves x = new FundMoves();
        for (int i = 0; i < 100; i++) {
            x.setPrice(0, 100 + i);
        }
        Check.same("price(0, 0)", 199, x.price(0, 0));
        for (int i = 1; i <= 60; i++) {
            x.pass(1);
            x.setPrice(0, 300 + i);
        }
        Check.same("the 61st price", 360, x.price(0, 60));
        x.pass(1);
        Check.badState("a 62nd price", () -> x.setPrice(0, 300));
    }

    private static void promise4SamePriceOnALaterDayIsCounted() {
        FundMoves x = new FundMoves();
        for (int i = 1; i <= 60; i++) {
            x.pass(1);
            Check.same("setPrice to the same", 1000, x.setPrice(1, 1000));
        }
        x.pass(1);
        Check.badState("a 62nd price", () -> x.setPrice(1, 1000));
    }

    private static void promise5PriceByDay() {
        FundMoves x = new FundMoves();
        x.pass(10);
        x.setPrice(2, 2000);
        x.pass(10);
        x.setPrice(2, 300);
        x.pass(5);
        Check.same("price(2, 0)", 1000, x.price(2, 0));
        Check.same("price(2, 9)", 1000, x.price(2, 9));
        Check.same("price(2, 10)", 2000, x.price(2, 10));
        Check.same("price(2, 19)", 2000, x.price(2, 19));
        Check.same("price(2, 20)", 300, x.price(2, 20));
        Check.same("price(2, 25)", 300, x.price(2, 25));
        Check.same("price(1, 15)", 1000, x.price(1, 15));
    }

    private static void promise5PriceRefusesOtherArguments() {
        FundMoves x = new FundMoves();
        x.pass(3);
        int[] otherProviders = {-1, 5, Integer.MAX_VALUE, Integer.MIN_VALUE};
        for (int provider : otherProviders) {
            Check.badArgument("price of " + provider, () -> x.price(provider, 0));
        }
        int[] otherDays = {-1, 4, 2000, Integer.MAX_VALUE, Integer.MIN_VALUE};
        for (int day : otherDays) {
            Check.badArgument("price on " + day, () -> x.price(0, day));
        }
        Check.same("price on the present day", 1000, x.price(4, 3));
    }

    private static void promise6SetDefault() {
        FundMoves x = new FundMoves();
        Check.same("setDefault(100)", 1000, x.setDefault(100));
        int[] others = {99, 10001, 0, -1, Integer.MAX_VALUE, Integer.MIN_VALUE};
        for (int price : others) {
            Check.badArgument("setDefault(" + price + ")", () -> x.setDefault(price));
        }
        Check.same("setDefault(10000)", 100, x.setDefault(10000));
        x.pass(1);
        Check.same("setDefault(700)", 10000, x.setDefault(700));
        Check.same("price of a provider", 1000, x.price(0, 1));
    }
}
