import java.math.BigInteger;
import java.util.ArrayList;
import java.util.Arrays;
import java.util.List;
import java.util.Random;

/**
 * Runs of up to 512 calls, each answer against a second reckoning that keeps every day's price in
 * a table and every step's day in its order, and derives all else from these.
 */
public final class ModelTest {
    private static final int RUNS = 4000;
    private static final int CALLS = 512;
    private static final int[] EDGES = {
        Integer.MIN_VALUE, -1, 0, 1, 4, 5, 9, 10, 29, 30, 99, 100, 101, 10000, 10001, 1000000, 1000001,
        Integer.MAX_VALUE
    };

    /** What a call answers, or which exception it throws. */
    private interface Call {
        long ask();
    }

    private static final class Model {
        final int[][] prices = new int[5][2001];
        final int[] priceCounts = {1, 1, 1, 1, 1};
        final int[] lastSetOn = new int[5];
        final List<long[]> savers = new ArrayList<>();
        final List<Moved> orders = new ArrayList<>();
        final BigInteger[][] owed = new BigInteger[5][5];
        final BigInteger[] lost = new BigInteger[5];
        int day = 0;
        int common = 1000;

        Model() {
            for (int i = 0; i < 5; i++) {
                Arrays.fill(prices[i], 1000);
                Arrays.fill(owed[i], BigInteger.ZERO);
                lost[i] = BigInteger.ZERO;
            }
        }

        long pass(int days) {
            argument(days >= 1 && days <= 100);
            state(day + days <= 2000);
            day += days;
            return day;
        }

        long setPrice(int provider, int price) {
            argument(isProvider(provider) && isPrice(price));
            boolean again = lastSetOn[provider] == day;
            state(again || priceCounts[provider] < 61);
            long before = prices[provider][day];
            if (!again) {
                priceCounts[provider]++;
                lastSetOn[provider] = day;
            }
            Arrays.fill(prices[provider], day, 2001, price);
            return before;
        }

        long price(int provider, int on) {
            argument(isProvider(provider) && on >= 0 && on <= day);
            return prices[provider][on];
        }

        long setDefault(int price) {
            argument(isPrice(price));
            long before = common;
            common = price;
            return before;
        }

        long begin(int provider, int money) {
            argument(isProvider(provider) && money >= 0 && money <= 1000000);
            state(savers.size() < 10);
            savers.add(new long[] {provider, bought(money, prices[provider][day])});
            return savers.size() - 1;
        }

        long pay(int saver, int money) {
            long[] payer = saver(saver);
            argument(money >= 1 && money <= 1000000);
            state(openOrder(saver) == null);
            long more = bought(money, prices[(int) payer[0]][day]);
            state(payer[1] + more <= 100000000);
            payer[1] += more;
            return more;
        }

        long order(int saver, int to) {
            long[] mover = saver(saver);
            argument(isProvider(to) && to != mover[0]);
            state(openOrder(saver) == null && orders.size() < 30);
            orders.add(new Moved(saver, (int) mover[0], to, day));
            return orders.size() - 1;
        }

        long step(int number, boolean forced) {
            Moved order = moved(number);
            state(order.days.size() < 4);
            int late = Math.max(0, day - order.due());
            state(!forced || late > 10);
            if (order.days.size() == 2) {
                long[] mover = savers.get(order.saver);
                order.sold = mover[1];
                order.money = sold(order.sold, forced ? common : prices[order.from][day]);
                mover[1] = 0;
            } else if (order.days.size() == 3) {
                buy(order, forced ? common : prices[order.to][day]);
            }
            order.days.add(day);
            return late;
        }

        private void buy(Moved order, int price) {
            List<Integer> days = new ArrayList<>(order.days);
            days.add(day);
            int ofOld = Moved.late(days, 1) + Moved.late(days, 2);
            int all = ofOld + Moved.late(days, 3);
            long units = bought(order.money, price);
            long lacking = 0;
            if (all > 0) {
                long timelyMoney = sold(order.sold, prices[order.from][days.get(2) - ofOld]);
                lacking = Math.max(0, bought(timelyMoney, prices[order.to][day - all]) - units);
            }
            state(units + lacking <= 100000000);
            savers.set(order.saver, new long[] {order.to, units + lacking});
            order.madeGood = lacking;
            if (all > 0) {
                BigInteger[] cost = BigInteger.valueOf(lacking)
                        .multiply(BigInteger.valueOf(prices[order.to][day]))
                        .divideAndRemainder(BigInteger.valueOf(1000));
                BigInteger whole = cost[0].add(BigInteger.valueOf(cost[1].signum()));
                BigInteger share = whole.multiply(BigInteger.valueOf(ofOld)).divide(BigInteger.valueOf(all));
                owed[order.from][order.to] = owed[order.from][order.to].add(share);
                lost[order.to] = lost[order.to].add(whole.subtract(share));
            }
        }

        long units(int saver) {
            return saver(saver)[1];
        }

        long provider(int saver) {
            return saver(saver)[0];
        }

        long stage(int order) {
            return moved(order).days.size() - 1;
        }

        long due(int order) {
            Moved found = moved(order);
            state(found.days.size() < 4);
            return found.due();
        }

        long late(int order) {
            Moved found = moved(order);
            int sum = 0;
            for (int i = 1; i < found.days.size(); i++) {
                sum += Moved.late(found.days, i);
            }
            return sum;
        }

        long money(int order) {
            return moved(order).money;
        }

        long madeGood(int order) {
            return moved(order).madeGood;
        }

        long owes(int provider, int other) {
            argument(isProvider(provider) && isProvider(other));
            return owed[provider][other].subtract(owed[other][provider]).longValueExact();
        }

        long losses(int provider) {
            argument(isProvider(provider));
            return lost[provider].longValueExact();
        }

        private long[] saver(int number) {
            if (number < 0 || number >= savers.size()) {
                throw new IndexOutOfBoundsException();
            }
            return savers.get(number);
        }

        private Moved moved(int number) {
            if (number < 0 || number >= orders.size()) {
                throw new IndexOutOfBoundsException();
            }
            return orders.get(number);
        }

        private Moved openOrder(int saver) {
            for (Moved order : orders) {
                if (order.saver == saver && order.days.size() < 4) {
                    return order;
                }
            }
            return null;
        }

        private static boolean isProvider(int provider) {
            return provider >= 0 && provider <= 4;
        }

        private static boolean isPrice(int price) {
            return price >= 100 && price <= 10000;
        }

        private static long bought(long money, int price) {
            return Math.floorDiv(Math.multiplyExact(money, 1000L), (long) price);
        }

        private static long sold(long thousandths, int price) {
            return Math.floorDiv(Math.multiplyExact(thousandths, (long) price), 1000L);
        }

        private static void argument(boolean fits) {
            if (!fits) {
                throw new IllegalArgumentException();
            }
        }

        private static void state(boolean fits) {
            if (!fits) {
                throw new IllegalStateException();
            }
        }
    }

    private static final class Moved {
        private static final int[] ALLOWED = {0, 3, 2, 2};
        final int saver;
        final int from;
        final int to;
        final List<Integer> days = new ArrayList<>();
        long sold;
        long money;
        long madeGood;

        Moved(int saver, int from, int to, int day) {
            this.saver = saver;
            this.from = from;
            this.to = to;
            days.add(day);
        }

        int due() {
            return days.get(days.size() - 1) + ALLOWED[days.size()];
        }

        static int late(List<Integer> days, int at) {
            return Math.max(0, days.get(at) - days.get(at - 1) - ALLOWED[at]);
        }
    }

    public static void main(String[] args) {
        int[] answered = new int[20];
        for (int run = 0; run < RUNS; run++) {
            oneRun(run, answered);
        }
        for (int kind = 0; kind < answered.length; kind++) {
            Check.isTrue("calls of kind " + kind + " that answered", answered[kind] > 100);
        }
        Check.end();
    }

    private static void oneRun(int run, int[] answered) {
        Random random = new Random(run);
        FundMoves x = new FundMoves();
        Model model = new Model();
        int wildness = run % 3;
        int haste = 1 + run % 7;
        int openAnswers = 0;
        for (int i = 0; i < CALLS; i++) {
            int kind = kind(random, i);
            int a = first(random, kind, haste, model);
            int b = second(random, kind, wildness, model);
            String want = told(() -> ofModel(model, kind, a, b));
            String got = told(() -> ofClass(x, kind, a, b));
            boolean isSame = got.equals(want);
            if (!isSame) {
                System.out.println("run " + run + ", call " + i + ", kind " + kind + "(" + a + ", " + b
                        + "): got " + got + ", due is " + want);
            }
            Check.isTrue("run " + run + ", call " + i, isSame);
            if (!isSame) {
                return;
            }
            if (want.charAt(0) != 'j') {
                answered[kind]++;
                openAnswers++;
            }
        }
        Check.isTrue("most calls of run " + run + " answer", openAnswers > CALLS / 4);
    }

    /** Kinds that change something are likelier than questions. */
    private static int kind(Random random, int call) {
        int[] changes = {0, 0, 2, 2, 4, 6, 7, 8, 8, 8, 9, 9, 9, 9, 9, 9, 10, 10};
        if (call < 6) {
            return random.nextBoolean() ? 5 : 2;
        }
        if (random.nextInt(3) > 0) {
            return changes[random.nextInt(changes.length)];
        }
        return random.nextInt(20);
    }

    private static int first(Random random, int kind, int haste, Model model) {
        if (random.nextInt(40) == 0) {
            return EDGES[random.nextInt(EDGES.length)];
        }
        if (kind == 0) {
            return 1 + random.nextInt(random.nextInt(8) == 0 ? 15 : haste);
        }
        if (kind == 4) {
            return 100 + random.nextInt(random.nextInt(5) == 0 ? 9901 : 900);
        }
        if (kind == 6 || kind == 7 || kind == 8 || kind == 18) {
            return random.nextInt(Math.max(1, model.savers.size()) + (random.nextInt(20) == 0 ? 1 : 0));
        }
        if (kind >= 9 && kind <= 15) {
            int open = anyOpen(random, model);
            boolean takesOpen = open >= 0 && random.nextInt(8) > 0;
            return takesOpen ? open : random.nextInt(model.orders.size() + 1);
        }
        return random.nextInt(5);
    }

    private static int anyOpen(Random random, Model model) {
        int size = model.orders.size();
        int start = size == 0 ? 0 : random.nextInt(size);
        for (int i = 0; i < size; i++) {
            int at = (start + i) % size;
            if (model.orders.get(at).days.size() < 4) {
                return at;
            }
        }
        return -1;
    }

    private static int second(Random random, int kind, int wildness, Model model) {
        if (random.nextInt(40) == 0) {
            return EDGES[random.nextInt(EDGES.length)];
        }
        if (kind == 2) {
            int[] widths = {400, 4000, 9901};
            int[] extremes = {100, 10000};
            return wildness == 2 && random.nextInt(3) == 0
                    ? extremes[random.nextInt(2)] : 100 + random.nextInt(widths[wildness]);
        }
        if (kind == 3) {
            return random.nextInt(model.day + 1);
        }
        if (kind == 5 || kind == 6) {
            int[] most = {50, 100000, 1000001};
            return wildness == 2 && random.nextBoolean() ? 1000000 : random.nextInt(most[wildness]);
        }
        return random.nextInt(5);
    }

    private static String told(Call call) {
        try {
            return Long.toString(call.ask());
        } catch (RuntimeException e) {
            return e.getClass().getName();
        }
    }

    private static long ofModel(Model m, int kind, int a, int b) {
        switch (kind) {
            case 0: return m.pass(a);
            case 1: return m.day;
            case 2: return m.setPrice(a, b);
            case 3: return m.price(a, b);
            case 4: return m.setDefault(a);
            case 5: return m.begin(a, b);
            case 6: return m.pay(a, b);
            case 7: return m.units(a);
            case 8: return m.order(a, b);
            case 9: return m.step(a, false);
            case 10: return m.step(a, true);
            case 11: return m.stage(a);
            case 12: return m.due(a);
            case 13: return m.late(a);
            case 14: return m.money(a);
            case 15: return m.madeGood(a);
            case 16: return m.owes(a, b);
            case 17: return m.losses(a);
            case 18: return m.provider(a);
            default: return m.owes(b, a);
        }
    }

    private static long ofClass(FundMoves x, int kind, int a, int b) {
        switch (kind) {
            case 0: return x.pass(a);
            case 1: return x.today();
            case 2: return x.setPrice(a, b);
            case 3: return x.price(a, b);
            case 4: return x.setDefault(a);
            case 5: return x.begin(a, b);
            case 6: return x.pay(a, b);
            case 7: return x.units(a);
            case 8: return x.order(a, b);
            case 9: return x.step(a);
            case 10: return x.force(a);
            case 11: return x.stage(a);
            case 12: return x.due(a);
            case 13: return x.late(a);
            case 14: return x.money(a);
            case 15: return x.madeGood(a);
            case 16: return x.owes(a, b);
            case 17: return x.losses(a);
            case 18: return x.provider(a);
            default: return x.owes(b, a);
        }
    }
}
