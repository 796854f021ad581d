import java.util.Random;

/** Random runs of calls, with right and wrong arguments, on a BlockCoder and a SlowCoder side by side. */
public final class RandomRunsTest {
    private static final int RUNS = 600;
    private static final int CALLS = 250;

    private final Check check;
    private final Random random;
    private final BlockCoder coder = new BlockCoder();
    private final SlowCoder slow = new SlowCoder();
    private final int run;
    private final int kinds;
    private final boolean steep;

    private RandomRunsTest(Check check, int run) {
        this.check = check;
        this.run = run;
        random = new Random(7919L * run + 1);
        kinds = 1 + random.nextInt(16);
        steep = random.nextBoolean();
    }

    public static void main(String[] args) {
        Check check = new Check();
        for (int run = 0; run < RUNS; run++) {
            new RandomRunsTest(check, run).go();
        }
        check.finish("RandomRunsTest");
    }

    private void go() {
        // Half of the calls are digests: they compare the whole state after each other call.
        for (int i = 0; i < CALLS; i++) {
            step();
            both("digest()", coder::digest, slow::digest);
        }
    }

    private void both(String name, Check.Call call, Check.Call want) {
        check.same("run " + run + ": " + name, Check.answerOf(call), Check.answerOf(want));
    }

    private void step() {
        switch (random.nextInt(5)) {
            case 0: changeText(); break;
            case 1: if (random.nextInt(3) == 0) { changeSettings(); } else { askText(); } break;
            case 2: makePlan(); break;
            case 3: askPlan(); break;
            default: useBits(); break;
        }
    }

    private void changeText() {
        int symbol = number(symbol(), -1, 16);
        switch (random.nextInt(7)) {
            case 0: case 1: {
                int many = number(1 + random.nextInt(random.nextInt(8) == 0 ? 80 : 5), 0, 81);
                both("append(" + symbol + ", " + many + ")",
                    () -> coder.append(symbol, many), () -> slow.append(symbol, many));
                break;
            }
            case 2: case 3: case 4: {
                long symbols = 0;
                for (int i = 0; i < 16; i++) {
                    symbols = symbols << 4 | symbol();
                }
                long fed = symbols;
                int many = number(1 + random.nextInt(16), 0, 17);
                both("feed(" + fed + ", " + many + ")", () -> coder.feed(fed, many), () -> slow.feed(fed, many));
                break;
            }
            case 5: {
                int place = number(place(), -1, coder.size());
                both("set(" + place + ", " + symbol + ")",
                    () -> coder.set(place, symbol), () -> slow.set(place, symbol));
                break;
            }
            default: {
                int many = number(random.nextInt(random.nextInt(4) == 0 ? coder.size() + 1 : 3), -1, coder.size() + 1);
                both("cut(" + many + ")", () -> coder.cut(many), () -> slow.cut(many));
                break;
            }
        }
    }

    private void changeSettings() {
        switch (random.nextInt(3)) {
            case 0: {
                int limit = number(1 + random.nextInt(6), 0, 7);
                both("setLimit(" + limit + ")", () -> coder.setLimit(limit), () -> slow.setLimit(limit));
                break;
            }
            case 1: {
                int header = number(random.nextInt(random.nextBoolean() ? 201 : 25), -1, 201);
                int symbol = number(random.nextInt(random.nextBoolean() ? 21 : 4), -1, 21);
                both("setPrices(" + header + ", " + symbol + ")",
                    () -> coder.setPrices(header, symbol), () -> slow.setPrices(header, symbol));
                break;
            }
            default: {
                int size = number(1 + random.nextInt(80), 0, 81);
                both("setGreatest(" + size + ")", () -> coder.setGreatest(size), () -> slow.setGreatest(size));
                break;
            }
        }
    }

    private void askText() {
        int from = number(place(), -1, coder.size() + 1);
        int to = number(from + random.nextInt(Math.max(1, coder.size() - from + 1)), -1, coder.size() + 1);
        int symbol = number(symbol(), -1, 16);
        both("size()", coder::size, slow::size);
        both("count(" + from + ", " + to + ", " + symbol + ")",
            () -> coder.count(from, to, symbol), () -> slow.count(from, to, symbol));
        both("costOf(" + from + ", " + to + ")", () -> coder.costOf(from, to), () -> slow.costOf(from, to));
    }

    private void makePlan() {
        both("hasPlan()", coder::hasPlan, slow::hasPlan);
        both("plan()", coder::plan, slow::plan);
        if (random.nextBoolean()) {
            both("write()", coder::write, slow::write);
        }
    }

    private void askPlan() {
        int blocks = coder.hasPlan() ? coder.plan() : 2;
        int block = number(random.nextInt(Math.max(1, blocks)), -1, blocks);
        int symbol = number(symbol(), -1, 16);
        int bits = number(random.nextInt(64), -1, 64);
        both("cost()", coder::cost, slow::cost);
        both("start(" + block + ")", () -> coder.start(block), () -> slow.start(block));
        both("length(" + block + ", " + symbol + ")",
            () -> coder.length(block, symbol), () -> slow.length(block, symbol));
        both("word(" + block + ", " + symbol + ")",
            () -> coder.word(block, symbol), () -> slow.word(block, symbol));
        both("slack(" + block + ")", () -> coder.slack(block), () -> slow.slack(block));
        both("look(" + block + ", " + bits + ")", () -> coder.look(block, bits), () -> slow.look(block, bits));
        both("gain()", coder::gain, slow::gain);
        both("average()", coder::average, slow::average);
    }

    private void useBits() {
        int total = coder.bitCount();
        int index = number(random.nextInt(Math.max(1, total)), -1, total);
        int flips = random.nextInt(3);
        for (int i = 0; i < flips; i++) {
            int flipped = number(random.nextInt(Math.max(1, total)), -1, total);
            both("flip(" + flipped + ")", () -> coder.flip(flipped), () -> slow.flip(flipped));
        }
        both("bitCount()", coder::bitCount, slow::bitCount);
        both("bit(" + index + ")", () -> coder.bit(index), () -> slow.bit(index));
        both("read()", coder::read, slow::read);
        for (int i = -1; i <= 80; i++) {
            int at = i;
            both("got(" + at + ")", () -> coder.got(at), () -> slow.got(at));
        }
        both("differences()", coder::differences, slow::differences);
    }

    private int place() {
        return random.nextInt(Math.max(1, coder.size()));
    }

    /** Steep texts have counts that fall by halves: their best codes without a limit are deep. */
    private int symbol() {
        if (!steep) {
            return random.nextInt(kinds);
        }
        int symbol = 0;
        while (symbol < kinds - 1 && random.nextInt(100) < 55) {
            symbol++;
        }
        return (symbol * 7 + run) & 15;
    }

    /** Mostly the right number; now and then one below or above, or one at the end of all ints. */
    private int number(int right, int below, int above) {
        switch (random.nextInt(40)) {
            case 0: return below;
            case 1: return above;
            case 2: return random.nextBoolean() ? Integer.MIN_VALUE : Integer.MAX_VALUE;
            default: return right;
        }
    }
}
