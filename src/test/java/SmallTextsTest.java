import java.util.ArrayList;
import java.util.Arrays;
import java.util.List;
import java.util.Random;

/** Small texts, for which all codes and all plans can be tried one by one (promises 11, 12, 14 to 18). */
public final class SmallTextsTest {
    private static final int TEXTS = 1500;

    private final int[] text;
    private final int limit;
    private final int header;
    private final int perSymbol;
    private final int greatest;
    private List<Integer> bestPlan = null;
    private int bestCost = 0;

    private SmallTextsTest(Random random) {
        text = new int[1 + random.nextInt(9)];
        int kinds = 1 + random.nextInt(5);
        for (int i = 0; i < text.length; i++) {
            text[i] = 15 - 3 * random.nextInt(kinds);
        }
        limit = 1 + random.nextInt(5);
        header = random.nextInt(6);
        perSymbol = random.nextInt(3);
        greatest = random.nextInt(3) == 0 ? 1 + random.nextInt(5) : 80;
    }

    public static void main(String[] args) {
        Check check = new Check();
        Random random = new Random(20261118);
        for (int i = 0; i < TEXTS; i++) {
            new SmallTextsTest(random).compare(check);
        }
        check.finish("SmallTextsTest");
    }

    private void compare(Check check) {
        BlockCoder coder = new BlockCoder();
        for (int symbol : text) {
            coder.append(symbol, 1);
        }
        coder.setLimit(limit);
        coder.setPrices(header, perSymbol);
        coder.setGreatest(greatest);
        tryPlans(0, 0, new ArrayList<>());
        String name = Arrays.toString(text) + " limit " + limit + " prices " + header + " " + perSymbol
            + " greatest " + greatest;
        check.due(name + " plan()", bestPlan.size(), coder::plan);
        check.due(name + " cost()", bestCost, coder::cost);
        int from = 0;
        for (int block = 0; block < bestPlan.size(); block++) {
            int at = block;
            check.due(name + " start(" + at + ")", from, () -> coder.start(at));
            int[] code = bestCode(from, from + bestPlan.get(block));
            for (int symbol = 0; symbol < 16; symbol++) {
                int asked = symbol;
                check.due(name + " length(" + at + ", " + asked + ")", code[symbol], () -> coder.length(at, asked));
            }
            from += bestPlan.get(block);
        }
        check.due(name + " costOf(0, " + text.length + ")", costOf(0, text.length), () -> coder.costOf(0, text.length));
    }

    private void tryPlans(int from, int cost, List<Integer> plan) {
        if (from == text.length) {
            if (bestPlan == null || SlowCoder.isBetter(cost, plan, bestCost, bestPlan)) {
                bestPlan = new ArrayList<>(plan);
                bestCost = cost;
            }
            return;
        }
        for (int end = from + 1; end <= text.length && end - from <= greatest; end++) {
            int price = costOf(from, end);
            if (price >= 0) {
                plan.add(end - from);
                tryPlans(end, cost + price, plan);
                plan.remove(plan.size() - 1);
            }
        }
    }

    private int costOf(int from, int to) {
        int[] code = bestCode(from, to);
        if (code == null) {
            return -1;
        }
        int kinds = (int) Arrays.stream(code).filter(length -> length > 0).count();
        return header + perSymbol * kinds + sumOf(code, from, to);
    }

    private int sumOf(int[] code, int from, int to) {
        int sum = 0;
        for (int place = from; place < to; place++) {
            sum += code[text[place]];
        }
        return sum;
    }

    /** Counts through all lengths of the symbols that occur, in ascending order: the first least one stays. */
    private int[] bestCode(int from, int to) {
        int[] present = Arrays.stream(text, from, to).distinct().sorted().toArray();
        int[] best = null;
        int all = (int) Math.pow(limit, present.length);
        for (int number = 0; number < all; number++) {
            int[] code = new int[16];
            int rest = number;
            int used = 0;
            for (int i = present.length - 1; i >= 0; i--) {
                code[present[i]] = 1 + rest % limit;
                used += 1 << limit - code[present[i]];
                rest /= limit;
            }
            if (used <= 1 << limit && (best == null || sumOf(code, from, to) < sumOf(best, from, to))) {
                best = code;
            }
        }
        return best;
    }
}
