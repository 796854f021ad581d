/**
 * All that later calls show of an object, as one text: two objects in the same state show the same.
 * Looking uses the object up (it reads anew and takes the text apart), with at most 330 calls.
 */
final class Shown {
    private static final int MOST_BITS = 48;
    private static final int MOST_BLOCKS = 6;

    private final BlockCoder coder;
    private final StringBuilder shown = new StringBuilder();

    private Shown(BlockCoder coder) {
        this.coder = coder;
    }

    static String by(BlockCoder coder) {
        Shown look = new Shown(coder);
        look.addNumbers();
        look.addPlan();
        look.addBits();
        look.addReading();
        look.add("the next reading", coder::read);
        look.addReading();
        look.takeApart();
        return look.shown.toString();
    }

    private void add(String name, Check.Call call) {
        shown.append(name).append(": ").append(Check.answerOf(call)).append("; ");
    }

    private void addNumbers() {
        add("size", coder::size);
        add("hasPlan", coder::hasPlan);
        add("cost", coder::cost);
        add("gain", coder::gain);
        add("average", coder::average);
        add("bitCount", coder::bitCount);
        add("differences", coder::differences);
        add("digest", coder::digest);
    }

    /** Only an object that has a plan is asked for its blocks: asking makes one. */
    private void addPlan() {
        int blocks = coder.hasPlan() ? coder.plan() : 0;
        add("blocks", () -> blocks);
        for (int i = 0; i < blocks && i < MOST_BLOCKS; i++) {
            int block = i;
            add("start", () -> coder.start(block));
            add("slack", () -> coder.slack(block));
            add("word of 0", () -> coder.word(block, 0));
        }
    }

    private void addBits() {
        int bits = Math.min(coder.bitCount(), MOST_BITS);
        for (int i = 0; i < bits; i++) {
            shown.append(coder.bit(i));
        }
        shown.append("; ");
    }

    private void addReading() {
        String symbol = Check.answerOf(() -> coder.got(0));
        for (int i = 1; i < 81 && !symbol.startsWith("throws"); i++) {
            int index = i;
            shown.append(symbol).append(' ');
            symbol = Check.answerOf(() -> coder.got(index));
        }
        shown.append("were read; ");
    }

    private void takeApart() {
        add("limit", () -> coder.setLimit(5));
        add("greatest", () -> coder.setGreatest(80));
        int size = coder.size();
        for (int i = 0; i < size; i++) {
            int place = i;
            add("symbol", () -> coder.set(place, 0));
        }
    }
}
