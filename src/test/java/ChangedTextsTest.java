import java.util.ArrayList;
import java.util.List;
import java.util.Random;

/**
 * A plan depends on the text and the settings alone, not on the plans before (promise 12): an object
 * whose text is changed between many plans must answer like a new one with the same text.
 */
public final class ChangedTextsTest {
    private static final int RUNS = 400;
    private static final int PLANS = 100;

    private final Random random;
    private final BlockCoder coder = new BlockCoder();
    private final List<Integer> text = new ArrayList<>();
    private int limit = 5;
    private int header = 20;
    private int perSymbol = 4;
    private int greatest = 80;

    private ChangedTextsTest(int run) {
        random = new Random(104729L * run + 3);
    }

    public static void main(String[] args) {
        Check check = new Check();
        for (int run = 0; run < RUNS; run++) {
            ChangedTextsTest test = new ChangedTextsTest(run);
            for (int i = 0; i < PLANS; i++) {
                test.change();
                BlockCoder fresh = test.newCoder();
                check.due("run " + run + ", plan " + i + ": " + test.text, resultOf(fresh), () -> resultOf(test.coder));
            }
        }
        check.finish("ChangedTextsTest");
    }

    /** Also the reading: rows of a longer plan before must not show through. */
    private static String resultOf(BlockCoder coder) {
        int blocks = coder.plan();
        int bits = coder.write();
        int symbols = coder.read();
        return blocks + " blocks, " + bits + " bits, " + symbols + " symbols, "
            + coder.differences() + " differences, digest " + coder.digest();
    }

    private BlockCoder newCoder() {
        BlockCoder fresh = new BlockCoder();
        for (int symbol : text) {
            fresh.append(symbol, 1);
        }
        fresh.setLimit(limit);
        fresh.setPrices(header, perSymbol);
        fresh.setGreatest(greatest);
        return fresh;
    }

    private void change() {
        switch (random.nextInt(6)) {
            case 0: replaceEnd(text.size()); break;
            case 1: replaceEnd(random.nextInt(text.size() + 1)); break;
            case 2: setSome(1 + random.nextInt(3)); break;
            case 3: setSome(text.size()); break;
            case 4: changeLimit(); break;
            default: changePricesAndGreatest(); break;
        }
    }

    private void replaceEnd(int cut) {
        coder.cut(cut);
        text.subList(text.size() - cut, text.size()).clear();
        int more = random.nextInt(Math.min(30, 80 - text.size()) + 1);
        int kinds = 1 + random.nextInt(16);
        for (int i = 0; i < more; i++) {
            int symbol = random.nextInt(kinds);
            coder.append(symbol, 1);
            text.add(symbol);
        }
    }

    private void setSome(int many) {
        int kinds = 1 + random.nextInt(4);
        for (int i = 0; i < many && !text.isEmpty(); i++) {
            int place = many == text.size() ? i : random.nextInt(text.size());
            int symbol = random.nextInt(kinds);
            coder.set(place, symbol);
            text.set(place, symbol);
        }
    }

    private void changeLimit() {
        limit = 1 + random.nextInt(6);
        coder.setLimit(limit);
    }

    private void changePricesAndGreatest() {
        header = random.nextInt(6);
        perSymbol = random.nextInt(4);
        greatest = random.nextBoolean() ? 80 : 1 + random.nextInt(20);
        coder.setPrices(header, perSymbol);
        coder.setGreatest(greatest);
    }
}
