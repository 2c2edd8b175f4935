/** One object, asked by calls that are written as the document writes them. */
final class Asked {
    /** The document promises nothing of later calls, so no test may rest on them. */
    private static final int MOST_CALLS = 512;
    private final FundMoves moves = new FundMoves();
    private int calls = 0;

    /** The answer as a text, or the exception behind "throws.". */
    String ask(String call) {
        calls++;
        if (calls > MOST_CALLS) {
            throw new AssertionError("a test asks more than " + MOST_CALLS + " calls of one object");
        }
        int open = call.indexOf('(');
        String inside = call.substring(open + 1, call.length() - 1);
        String[] parts = inside.isEmpty() ? new String[0] : inside.split(", ");
        int a = parts.length > 0 ? Integer.parseInt(parts[0]) : 0;
        int b = parts.length > 1 ? Integer.parseInt(parts[1]) : 0;
        try {
            return Long.toString(answer(call.substring(0, open), a, b));
        } catch (RuntimeException e) {
            return "throws." + e.getClass().getName();
        }
    }

    private long answer(String name, int a, int b) {
        switch (name) {
            case "pass": return moves.pass(a);
            case "today": return moves.today();
            case "setPrice": return moves.setPrice(a, b);
            case "price": return moves.price(a, b);
            case "setDefault": return moves.setDefault(a);
            case "begin": return moves.begin(a, b);
            case "pay": return moves.pay(a, b);
            case "units": return moves.units(a);
            case "provider": return moves.provider(a);
            case "order": return moves.order(a, b);
            case "step": return moves.step(a);
            case "force": return moves.force(a);
            case "stage": return moves.stage(a);
            case "due": return moves.due(a);
            case "late": return moves.late(a);
            case "money": return moves.money(a);
            case "madeGood": return moves.madeGood(a);
            case "owes": return moves.owes(a, b);
            case "losses": return moves.losses(a);
            default: throw new AssertionError("no call " + name);
        }
    }
}
