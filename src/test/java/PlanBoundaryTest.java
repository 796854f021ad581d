/** The boundary cases of promises 11 to 20: costs, plans, codes. */
public final class PlanBoundaryTest {
    private static final int LEAST = Boundary.LEAST;
    private static final int MOST = Boundary.MOST;
    private static final int[] NO_SYMBOLS = {-1, 16, LEAST, MOST};
    private static final String DIFFERENT = "0123456789abcdef";

    private final Boundary boundary = new Boundary();

    private PlanBoundaryTest() {
    }

    public static void main(String[] args) {
        PlanBoundaryTest test = new PlanBoundaryTest();
        test.costOfFromIsNegative();
        test.costOfToIsGreaterThanTheSize();
        test.costOfFromIsNotLessThanTo();
        test.costOfWhateverTheGreatestSize();
        test.costOfWithoutACode();
        test.planIsThereAlready();
        test.planReturnsTheNumberOfBlocks();
        test.hasPlan();
        test.costWithoutAPlan();
        test.costAtItsEnds();
        test.startWithoutAPlan();
        test.startNoSuchBlock();
        test.lengthWithoutAPlan();
        test.lengthNoSuchBlock();
        test.lengthSymbolIsNot0To15();
        test.lengthOfWhatDoesNotOccur();
        test.wordWithoutAPlan();
        test.wordNoSuchBlock();
        test.wordSymbolIsNot0To15();
        test.wordOfWhatDoesNotOccur();
        test.wordAtItsEnds();
        test.slackWithoutAPlan();
        test.slackNoSuchBlock();
        test.slackAtItsEnds();
        test.lookWithoutAPlan();
        test.lookNoSuchBlock();
        test.lookBitsAreNot0To2ToTheL();
        test.lookFindsNone();
        test.lookBetweenTwoWords();
        test.gainWithoutAPlan();
        test.gainOfAnEmptyText();
        test.gainWithoutACode();
        test.gainAtAndBesideZero();
        test.boundary.finish("PlanBoundaryTest");
    }

    /** "IndexOutOfBoundsException if from is negative". */
    private void costOfFromIsNegative() {
        boundary.about("Promise 11, from is negative");
        boundary.refusesEverywhere("costOf(-1, 0)", coder -> coder.costOf(-1, 0), Boundary.BOUNDS);
        boundary.refusesEverywhere("costOf(-1, 1)", coder -> coder.costOf(-1, 1), Boundary.BOUNDS);
        boundary.refusesEverywhere("the least", coder -> coder.costOf(LEAST, 1), Boundary.BOUNDS);
        boundary.refusesEverywhere("the least and the most", coder -> coder.costOf(LEAST, MOST), Boundary.BOUNDS);
        boundary.refuses("to is right", Boundary::damaged, coder -> coder.costOf(-1, 4), Boundary.BOUNDS);
        boundary.asks("0", Boundary::damaged, coder -> coder.costOf(0, 4), 20 + 12 + 6);
        boundary.asks("1", Boundary::damaged, coder -> coder.costOf(1, 4), 20 + 12 + 5);
    }

    /** ".. to is greater than the size". */
    private void costOfToIsGreaterThanTheSize() {
        boundary.about("Promise 11, to is greater than the size");
        boundary.refusesEverywhere("costOf(0, 81)", coder -> coder.costOf(0, 81), Boundary.BOUNDS);
        boundary.refusesEverywhere("the most", coder -> coder.costOf(0, MOST), Boundary.BOUNDS);
        boundary.refusesEverywhere("just the most", coder -> coder.costOf(MOST - 1, MOST), Boundary.BOUNDS);
        boundary.asks("one less", Boundary::damaged, coder -> coder.costOf(0, 3), 20 + 12 + 5);
        boundary.asks("the size", Boundary::damaged, coder -> coder.costOf(0, 4), 20 + 12 + 6);
        boundary.refuses("one more", Boundary::damaged, coder -> coder.costOf(0, 5), Boundary.BOUNDS);
        boundary.refuses("the place behind the text", Boundary::damaged, coder -> coder.costOf(4, 5), Boundary.BOUNDS);
        boundary.asks("80 of 80", () -> Boundary.text(Boundary.FULL), coder -> coder.costOf(0, 80), 20 + 64 + 320);
        boundary.asks("the last of 80", () -> Boundary.text(Boundary.FULL), coder -> coder.costOf(79, 80), 25);
        boundary.refuses("an empty text", BlockCoder::new, coder -> coder.costOf(0, 1), Boundary.BOUNDS);
        boundary.refuses("an empty text with a plan", () -> Boundary.planned(""), coder -> coder.costOf(0, 1), Boundary.BOUNDS);
        boundary.refuses("a place that was cut", () -> {
            BlockCoder coder = Boundary.text("2102");
            coder.cut(1);
            return coder;
        }, coder -> coder.costOf(0, 4), Boundary.BOUNDS);
    }

    /** ".. or from is not less than to". */
    private void costOfFromIsNotLessThanTo() {
        boundary.about("Promise 11, from is not less than to");
        boundary.refusesEverywhere("costOf(0, 0)", coder -> coder.costOf(0, 0), Boundary.BOUNDS);
        for (int place = 0; place <= 4; place++) {
            int at = place;
            boundary.refuses("the same, " + at, Boundary::damaged, coder -> coder.costOf(at, at), Boundary.BOUNDS);
            boundary.refuses("greater, " + at, Boundary::damaged, coder -> coder.costOf(at + 1, at), Boundary.BOUNDS);
        }
        for (int place = 0; place < 4; place++) {
            int at = place;
            boundary.asks("less by one, " + at, Boundary::damaged, coder -> coder.costOf(at, at + 1), 25);
        }
        boundary.refuses("much greater", Boundary::damaged, coder -> coder.costOf(MOST, 0), Boundary.BOUNDS);
    }

    /** "Tells what a block would cost, whatever the greatest size is". */
    private void costOfWhateverTheGreatestSize() {
        boundary.about("Promise 11, whatever the greatest size is");
        for (int greatest : new int[] {1, 3, 4, 5, 80}) {
            boundary.asks("greatest size " + greatest, () -> Boundary.withSettings("2102", 5, 20, 4, greatest),
                coder -> coder.costOf(0, 4), 38);
        }
        boundary.asks("80 places, greatest size 1", () -> Boundary.withSettings("9".repeat(80), 5, 20, 4, 1),
            coder -> coder.costOf(0, 80), 104);
    }

    /** "Returns its cost; -1 if it has no code": a block with more than 2^L different symbols. */
    private void costOfWithoutACode() {
        boundary.about("Promise 11, no code");
        for (int limit = 1; limit <= 3; limit++) {
            int most = 1 << limit;
            int sumOfLess = limit == 1 ? 1 : limit - 1 + (most - 2) * limit;
            different("2^L - 1 symbols", limit, most - 1, 20 + 4 * (most - 1) + sumOfLess);
            different("2^L symbols", limit, most, 20 + 4 * most + most * limit);
            different("2^L + 1 symbols", limit, most + 1, -1);
            different("16 symbols", limit, 16, -1);
        }
        different("15 symbols", 4, 15, 20 + 60 + 59);
        for (int limit = 4; limit <= 6; limit++) {
            different("16 symbols", limit, 16, 20 + 64 + 64);
        }
        boundary.asks("many places, two symbols", () -> Boundary.withSettings("01".repeat(40), 1, 20, 4, 80),
            coder -> coder.costOf(0, 80), 20 + 8 + 80);
        boundary.asks("the third symbol last", () -> Boundary.withSettings("01".repeat(39) + "2", 1, 20, 4, 80),
            coder -> coder.costOf(0, 79), -1);
        boundary.asks("up to the third symbol", () -> Boundary.withSettings("01".repeat(39) + "2", 1, 20, 4, 80),
            coder -> coder.costOf(0, 78), 20 + 8 + 78);
        boundary.asks("one place always has a code", () -> Boundary.withSettings(DIFFERENT, 1, 20, 4, 80),
            coder -> coder.costOf(15, 16), 25);
        boundary.asks("a dear block is no block without a code", () -> Boundary.withSettings(DIFFERENT, 6, 200, 20, 80),
            coder -> coder.costOf(0, 16), 200 + 320 + 64);
    }

    private void different(String name, int limit, int symbols, int due) {
        boundary.asks(name + ", limit " + limit,
            () -> Boundary.withSettings(DIFFERENT.substring(0, symbols), limit, 20, 4, 80),
            coder -> coder.costOf(0, symbols), due);
    }

    /** "If there is one already, it stays, and so do the bits that are written". */
    private void planIsThereAlready() {
        boundary.about("Promise 12, there is one already");
        boundary.asks("without bits", () -> Boundary.planned("2102"), coder -> coder.plan(), 1);
        boundary.asks("with bits", () -> Boundary.written("2102"), coder -> coder.plan(), 1);
        boundary.asks("with damaged bits and a reading", Boundary::damaged, coder -> coder.plan(), 1);
        boundary.asks("two blocks", Boundary::twoBlocks, coder -> coder.plan(), 2);
        boundary.asks("without blocks", () -> Boundary.planned(""), coder -> coder.plan(), 0);
        boundary.changes("none yet: made once, then it stays", () -> Boundary.text("2102"),
            coder -> coder.plan() + coder.plan(), 2, () -> Boundary.planned("2102"));
        BlockCoder coder = Boundary.damaged();
        coder.plan();
        boundary.same("the damaged bits", Boundary.bitsOf(coder), "001100");
    }

    /** "Returns the number of its blocks". */
    private void planReturnsTheNumberOfBlocks() {
        boundary.about("Promise 12, the number of blocks");
        boundary.changes("none", BlockCoder::new, coder -> coder.plan(), 0, () -> Boundary.planned(""));
        boundary.changes("one place", () -> Boundary.text("5"), coder -> coder.plan(), 1, () -> Boundary.planned("5"));
        for (int size : new int[] {1, 2, 79, 80}) {
            BlockCoder coder = Boundary.withSettings(Boundary.FULL.substring(0, size), 5, 20, 4, 1);
            boundary.same(size + " blocks", coder.plan(), size);
            boundary.same(size + " blocks, a plan", coder.hasPlan(), true);
        }
    }

    private void hasPlan() {
        boundary.about("Promise 13, hasPlan");
        Boundary.withoutPlan().forEach((name, scene) -> boundary.asks(name, scene, coder -> coder.hasPlan(), false));
        Boundary.withPlan().forEach((name, scene) -> boundary.asks(name, scene, coder -> coder.hasPlan(), true));
    }

    /** "IllegalStateException if there is no plan". */
    private void costWithoutAPlan() {
        boundary.about("Promise 14, no plan");
        boundary.refusesWithoutPlan("cost", coder -> coder.cost());
        boundary.asks("a plan", () -> Boundary.planned("2102"), coder -> coder.cost(), 38);
        boundary.asks("a plan without blocks", () -> Boundary.planned(""), coder -> coder.cost(), 0);
    }

    private void costAtItsEnds() {
        boundary.about("Promise 14, the least and the greatest cost");
        boundary.asks("the least but none", () -> Boundary.planned("5", 1, 0, 0), coder -> coder.cost(), 1);
        boundary.asks("80 headers", () -> {
            BlockCoder coder = Boundary.withSettings(Boundary.FULL, 5, 200, 20, 1);
            coder.plan();
            return coder;
        }, coder -> coder.cost(), 80 * 221);
        boundary.asks("without blocks, with prices", () -> Boundary.planned("", 5, 200, 20), coder -> coder.cost(), 0);
        boundary.asks("bits that were turned cost the same", Boundary::damaged, coder -> coder.cost(), 38);
    }

    private void startWithoutAPlan() {
        boundary.about("Promise 15, no plan");
        for (int block : new int[] {0, -1, 1, LEAST, MOST}) {
            boundary.refusesWithoutPlan("start(" + block + ")", coder -> coder.start(block));
        }
        boundary.asks("a plan", () -> Boundary.planned("2102"), coder -> coder.start(0), 0);
    }

    /** "IndexOutOfBoundsException if there is no such block". */
    private void startNoSuchBlock() {
        boundary.about("Promise 15, no such block");
        noSuchBlock("start", (coder, block) -> coder.start(block));
        boundary.asks("the first of two", Boundary::twoBlocks, coder -> coder.start(0), 0);
        boundary.asks("the last of two", Boundary::twoBlocks, coder -> coder.start(1), 8);
        for (int block : new int[] {0, 1, 78, 79}) {
            boundary.asks("one of 80", PlanBoundaryTest::eightyBlocks, coder -> coder.start(block), block);
        }
    }

    private interface BlockCall {
        Object on(BlockCoder coder, int block);
    }

    /** Blocks beside those of plans with no, one, two and 80 blocks. */
    private void noSuchBlock(String name, BlockCall call) {
        for (int block : new int[] {-1, 80, LEAST, MOST}) {
            Boundary.withPlan().forEach((place, scene) -> boundary.refuses(name + " of block " + block + ", " + place,
                scene, coder -> call.on(coder, block), Boundary.BOUNDS));
            boundary.refuses(name + " of block " + block + " beside 80", PlanBoundaryTest::eightyBlocks,
                coder -> call.on(coder, block), Boundary.BOUNDS);
        }
        boundary.refuses(name + " without blocks", () -> Boundary.planned(""), coder -> call.on(coder, 0), Boundary.BOUNDS);
        boundary.refuses(name + " behind one", Boundary::damaged, coder -> call.on(coder, 1), Boundary.BOUNDS);
        boundary.refuses(name + " behind two", Boundary::twoBlocks, coder -> call.on(coder, 2), Boundary.BOUNDS);
        boundary.refuses(name + " behind one, with two before", () -> {
            BlockCoder coder = Boundary.twoBlocks();
            coder.setPrices(200, 0);
            coder.plan();
            return coder;
        }, coder -> call.on(coder, 1), Boundary.BOUNDS);
    }

    private static BlockCoder eightyBlocks() {
        BlockCoder coder = Boundary.withSettings(Boundary.FULL, 5, 20, 4, 1);
        coder.plan();
        return coder;
    }

    private void lengthWithoutAPlan() {
        boundary.about("Promise 16, no plan");
        boundary.refusesWithoutPlan("length(0, 0)", coder -> coder.length(0, 0));
        boundary.refusesWithoutPlan("length(-1, 0)", coder -> coder.length(-1, 0));
        boundary.refusesWithoutPlan("length(0, 16)", coder -> coder.length(0, 16));
        boundary.refusesWithoutPlan("length(-1, -1)", coder -> coder.length(-1, -1));
        boundary.asks("a plan", () -> Boundary.planned("2102"), coder -> coder.length(0, 0), 2);
    }

    private void lengthNoSuchBlock() {
        boundary.about("Promise 16, no such block");
        noSuchBlock("length", (coder, block) -> coder.length(block, 0));
        noSuchBlock("length of no symbol", (coder, block) -> coder.length(block, 16));
        boundary.asks("the first of two", Boundary::twoBlocks, coder -> coder.length(0, 1), 1);
        boundary.asks("the last of two", Boundary::twoBlocks, coder -> coder.length(1, 3), 1);
        boundary.asks("the last of 80", PlanBoundaryTest::eightyBlocks, coder -> coder.length(79, 15), 1);
    }

    /** ".. or symbol is not 0 to 15". */
    private void lengthSymbolIsNot0To15() {
        boundary.about("Promise 16, symbol is not 0 to 15");
        for (int symbol : NO_SYMBOLS) {
            boundary.refuses("length(0, " + symbol + ")", Boundary::damaged, coder -> coder.length(0, symbol), Boundary.BOUNDS);
            boundary.refuses("length(1, " + symbol + ")", Boundary::twoBlocks, coder -> coder.length(1, symbol), Boundary.BOUNDS);
            boundary.refuses("length(79, " + symbol + ")", PlanBoundaryTest::eightyBlocks,
                coder -> coder.length(79, symbol), Boundary.BOUNDS);
        }
        boundary.asks("0", () -> Boundary.planned("0eeefffffff"), coder -> coder.length(0, 0), 2);
        boundary.asks("14", () -> Boundary.planned("0eeefffffff"), coder -> coder.length(0, 14), 2);
        boundary.asks("15", () -> Boundary.planned("0eeefffffff"), coder -> coder.length(0, 15), 1);
    }

    /** "0 if the symbol does not occur in the block", also if it occurs in another one. */
    private void lengthOfWhatDoesNotOccur() {
        boundary.about("Promise 16, a symbol that does not occur in the block");
        boundary.asks("nowhere", () -> Boundary.planned("2102"), coder -> coder.length(0, 3), 0);
        boundary.asks("15", () -> Boundary.planned("2102"), coder -> coder.length(0, 15), 0);
        boundary.asks("0", () -> Boundary.planned("212"), coder -> coder.length(0, 0), 0);
        boundary.asks("in the block before", Boundary::twoBlocks, coder -> coder.length(1, 1), 0);
        boundary.asks("in the block behind", Boundary::twoBlocks, coder -> coder.length(0, 2), 0);
        boundary.asks("in the plan before", () -> {
            BlockCoder coder = Boundary.planned("2102");
            coder.set(1, 0);
            coder.plan();
            return coder;
        }, coder -> coder.length(0, 1), 0);
        boundary.asks("it alone occurs", () -> Boundary.planned("7"), coder -> coder.length(0, 7), 1);
    }

    private void wordWithoutAPlan() {
        boundary.about("Promise 17, no plan");
        boundary.refusesWithoutPlan("word(0, 0)", coder -> coder.word(0, 0));
        boundary.refusesWithoutPlan("word(-1, 0)", coder -> coder.word(-1, 0));
        boundary.refusesWithoutPlan("word(0, 16)", coder -> coder.word(0, 16));
        boundary.refusesWithoutPlan("word(-1, -1)", coder -> coder.word(-1, -1));
        boundary.asks("a plan", () -> Boundary.planned("2102"), coder -> coder.word(0, 0), 2);
    }

    private void wordNoSuchBlock() {
        boundary.about("Promise 17, no such block");
        noSuchBlock("word", (coder, block) -> coder.word(block, 0));
        noSuchBlock("word of no symbol", (coder, block) -> coder.word(block, 16));
        boundary.asks("the first of two", Boundary::twoBlocks, coder -> coder.word(0, 1), 1);
        boundary.asks("the last of two", Boundary::twoBlocks, coder -> coder.word(1, 3), 1);
        boundary.asks("the last of 80", PlanBoundaryTest::eightyBlocks, coder -> coder.word(79, 15), 0);
    }

    private void wordSymbolIsNot0To15() {
        boundary.about("Promise 17, symbol is not 0 to 15");
        for (int symbol : NO_SYMBOLS) {
            boundary.refuses("word(0, " + symbol + ")", Boundary::damaged, coder -> coder.word(0, symbol), Boundary.BOUNDS);
            boundary.refuses("word(1, " + symbol + ")", Boundary::twoBlocks, coder -> coder.word(1, symbol), Boundary.BOUNDS);
            boundary.refuses("word(79, " + symbol + ")", PlanBoundaryTest::eightyBlocks,
                coder -> coder.word(79, symbol), Boundary.BOUNDS);
        }
        boundary.asks("0", () -> Boundary.planned("0eeefffffff"), coder -> coder.word(0, 0), 2);
        boundary.asks("14", () -> Boundary.planned("0eeefffffff"), coder -> coder.word(0, 14), 3);
        boundary.asks("15", () -> Boundary.planned("0eeefffffff"), coder -> coder.word(0, 15), 0);
    }

    /** "-1 if the symbol does not occur in the block". */
    private void wordOfWhatDoesNotOccur() {
        boundary.about("Promise 17, a symbol that does not occur in the block");
        boundary.asks("nowhere", () -> Boundary.planned("2102"), coder -> coder.word(0, 3), -1);
        boundary.asks("15", () -> Boundary.planned("2102"), coder -> coder.word(0, 15), -1);
        boundary.asks("0", () -> Boundary.planned("212"), coder -> coder.word(0, 0), -1);
        boundary.asks("in the block before", Boundary::twoBlocks, coder -> coder.word(1, 1), -1);
        boundary.asks("in the block behind", Boundary::twoBlocks, coder -> coder.word(0, 2), -1);
        boundary.asks("in the plan before", () -> {
            BlockCoder coder = Boundary.planned("2102");
            coder.set(1, 0);
            coder.plan();
            return coder;
        }, coder -> coder.word(0, 1), -1);
        boundary.asks("the word 0 is no missing one", () -> Boundary.planned("7"), coder -> coder.word(0, 7), 0);
    }

    /** The first word is 0, the last one of a code without slack has no bit 0. */
    private void wordAtItsEnds() {
        boundary.about("Promise 17, the first and the last word");
        Boundary.Scene deep = () -> Boundary.planned(Boundary.DEEP, 6, 200, 0);
        boundary.asks("the first", deep, coder -> coder.word(0, 6), 0);
        boundary.asks("the second", deep, coder -> coder.word(0, 5), 2);
        boundary.asks("the last but one", deep, coder -> coder.word(0, 0), 62);
        boundary.asks("the last", deep, coder -> coder.word(0, 1), 63);
        Boundary.Scene flat = () -> Boundary.planned(DIFFERENT, 4, 200, 0);
        for (int symbol = 0; symbol < 16; symbol++) {
            int word = symbol;
            boundary.asks("of 16 words, " + word, flat, coder -> coder.word(0, word), word);
        }
        boundary.asks("limit 1, the first", () -> Boundary.planned("10", 1, 20, 4), coder -> coder.word(0, 0), 0);
        boundary.asks("limit 1, the last", () -> Boundary.planned("10", 1, 20, 4), coder -> coder.word(0, 1), 1);
    }

    private void slackWithoutAPlan() {
        boundary.about("Promise 18, no plan");
        for (int block : new int[] {0, -1, 1, LEAST, MOST}) {
            boundary.refusesWithoutPlan("slack(" + block + ")", coder -> coder.slack(block));
        }
        boundary.asks("a plan", () -> Boundary.planned("2102"), coder -> coder.slack(0), 0);
    }

    private void slackNoSuchBlock() {
        boundary.about("Promise 18, no such block");
        noSuchBlock("slack", (coder, block) -> coder.slack(block));
        boundary.asks("the first of two", Boundary::twoBlocks, coder -> coder.slack(0), 0);
        boundary.asks("the last of two", Boundary::twoBlocks, coder -> coder.slack(1), 0);
        boundary.asks("the last of 80", PlanBoundaryTest::eightyBlocks, coder -> coder.slack(79), 16);
    }

    /** "what is missing is the slack of the code": half of all with one symbol, nothing with more. */
    private void slackAtItsEnds() {
        boundary.about("Promise 18, the least and the greatest slack");
        for (int limit = 1; limit <= 6; limit++) {
            int bound = limit;
            boundary.asks("one symbol, limit " + limit, () -> Boundary.planned("7", bound, 20, 4),
                coder -> coder.slack(0), 1 << (limit - 1));
            boundary.asks("80 times, limit " + limit, () -> Boundary.planned("7".repeat(80), bound, 20, 4),
                coder -> coder.slack(0), 1 << (limit - 1));
            boundary.asks("two symbols, limit " + limit, () -> Boundary.planned("70", bound, 200, 4),
                coder -> coder.slack(0), 0);
            int most = Math.min(16, 1 << limit);
            boundary.asks(most + " symbols, limit " + limit, () -> Boundary.planned(DIFFERENT.substring(0, most), bound, 200, 0),
                coder -> coder.slack(0), 0);
        }
        boundary.asks("three symbols", () -> Boundary.planned("012", 6, 200, 0), coder -> coder.slack(0), 0);
        boundary.asks("seven symbols, as deep as can be", () -> Boundary.planned(Boundary.DEEP, 6, 200, 0),
            coder -> coder.slack(0), 0);
    }

    private void lookWithoutAPlan() {
        boundary.about("Promise 19, no plan");
        boundary.refusesWithoutPlan("look(0, 0)", coder -> coder.look(0, 0));
        boundary.refusesWithoutPlan("look(-1, 0)", coder -> coder.look(-1, 0));
        boundary.refusesWithoutPlan("look(0, 64)", coder -> coder.look(0, 64));
        boundary.refusesWithoutPlan("look(-1, -1)", coder -> coder.look(-1, -1));
        boundary.asks("a plan", () -> Boundary.planned("2102"), coder -> coder.look(0, 0), 18);
    }

    /** "no such block" is named before "bits is not 0 to 2^L - 1". */
    private void lookNoSuchBlock() {
        boundary.about("Promise 19, no such block");
        noSuchBlock("look", (coder, block) -> coder.look(block, 0));
        noSuchBlock("look at bits -1", (coder, block) -> coder.look(block, -1));
        noSuchBlock("look at bits 64", (coder, block) -> coder.look(block, 64));
        noSuchBlock("look at the most bits", (coder, block) -> coder.look(block, MOST));
        boundary.asks("the first of two", Boundary::twoBlocks, coder -> coder.look(0, 31), 17);
        boundary.asks("the last of two", Boundary::twoBlocks, coder -> coder.look(1, 31), 19);
        boundary.asks("the last of 80", PlanBoundaryTest::eightyBlocks, coder -> coder.look(79, 15), 31);
    }

    /** "IllegalArgumentException if bits is not 0 to 2^L - 1". */
    private void lookBitsAreNot0To2ToTheL() {
        boundary.about("Promise 19, bits is not 0 to 2^L - 1");
        for (int limit = 1; limit <= 6; limit++) {
            int bound = limit;
            int over = 1 << limit;
            Boundary.Scene scene = () -> Boundary.planned("70", bound, 200, 4);
            for (int bits : new int[] {-1, over, over + 1, 64, LEAST, MOST}) {
                boundary.refuses("limit " + limit + ", bits " + bits, scene, coder -> coder.look(0, bits), Boundary.ARGUMENT);
            }
            boundary.asks("limit " + limit + ", the least", scene, coder -> coder.look(0, 0), 16);
            boundary.asks("limit " + limit + ", the most", scene, coder -> coder.look(0, over - 1), 16 + 7);
        }
        boundary.refuses("with damaged bits", Boundary::damaged, coder -> coder.look(0, 32), Boundary.ARGUMENT);
        boundary.refuses("no word anyway", () -> Boundary.planned("7"), coder -> coder.look(0, 32), Boundary.ARGUMENT);
    }

    /** "-1 if they begin with none": only a code with slack leaves such bits. */
    private void lookFindsNone() {
        boundary.about("Promise 19, they begin with none");
        for (int limit = 1; limit <= 6; limit++) {
            int bound = limit;
            int half = 1 << (limit - 1);
            Boundary.Scene scene = () -> Boundary.planned("5555", bound, 20, 4);
            boundary.asks("limit " + limit + ", the last that is one", scene, coder -> coder.look(0, half - 1), 21);
            boundary.asks("limit " + limit + ", the first that is none", scene, coder -> coder.look(0, half), -1);
            boundary.asks("limit " + limit + ", the last that is none", scene, coder -> coder.look(0, 2 * half - 1), -1);
        }
    }

    /** "16 * the length + the symbol, of the word with which the bits begin". */
    private void lookBetweenTwoWords() {
        boundary.about("Promise 19, between two words");
        Boundary.Scene deep = () -> Boundary.planned(Boundary.DEEP, 6, 200, 0);
        int[][] due = {{0, 22}, {31, 22}, {32, 37}, {47, 37}, {48, 52}, {55, 52}, {56, 67}, {59, 67}, {60, 82}, {61, 82},
            {62, 96}, {63, 97}};
        for (int[] row : due) {
            boundary.asks("bits " + row[0], deep, coder -> coder.look(0, row[0]), row[1]);
        }
        Boundary.Scene flat = () -> Boundary.planned(DIFFERENT, 6, 200, 0);
        for (int bits = 0; bits < 64; bits++) {
            int at = bits;
            boundary.asks("16 words, bits " + bits, flat, coder -> coder.look(0, at), 64 + at / 4);
        }
    }

    /** "IllegalStateException if there is no plan", also if the text is empty. */
    private void gainWithoutAPlan() {
        boundary.about("Promise 20, no plan");
        boundary.refusesWithoutPlan("gain", coder -> coder.gain());
        boundary.asks("a plan", () -> Boundary.planned("2102"), coder -> coder.gain(), 0);
    }

    /** "NoSuchElementException if the text is empty". */
    private void gainOfAnEmptyText() {
        boundary.about("Promise 20, the text is empty");
        boundary.refuses("a plan without blocks", () -> Boundary.planned(""), coder -> coder.gain(), Boundary.ELEMENT);
        boundary.refuses("written and read", () -> {
            BlockCoder coder = Boundary.written("");
            coder.read();
            return coder;
        }, coder -> coder.gain(), Boundary.ELEMENT);
        boundary.refuses("emptied", () -> {
            BlockCoder coder = Boundary.damaged();
            coder.cut(4);
            coder.plan();
            return coder;
        }, coder -> coder.gain(), Boundary.ELEMENT);
        boundary.asks("one symbol", () -> Boundary.planned("5"), coder -> coder.gain(), 0);
    }

    /** "-1 if the whole text has no code as one block". */
    private void gainWithoutACode() {
        boundary.about("Promise 20, the whole text has no code");
        for (int limit = 1; limit <= 3; limit++) {
            int bound = limit;
            int most = 1 << limit;
            boundary.asks("2^L symbols, limit " + limit,
                () -> Boundary.planned(DIFFERENT.substring(0, most), bound, 200, 0), coder -> coder.gain(), 0);
            boundary.asks("2^L + 1 symbols, limit " + limit,
                () -> Boundary.planned(DIFFERENT.substring(0, most + 1), bound, 200, 0), coder -> coder.gain(), -1);
            boundary.asks("2^L + 1 symbols, no prices, limit " + limit,
                () -> Boundary.planned(DIFFERENT.substring(0, most + 1), bound, 0, 0), coder -> coder.gain(), -1);
        }
        boundary.asks("16 symbols, limit 4", () -> Boundary.planned(DIFFERENT, 4, 200, 0), coder -> coder.gain(), 0);
    }

    /** One block costs h + 16, two cost 2h + 8; a greatest size can make the plan the dearer one. */
    private void gainAtAndBesideZero() {
        boundary.about("Promise 20, the difference");
        boundary.asks("two are dearer", () -> Boundary.planned("00112233", 5, 9, 0), coder -> coder.gain(), 0);
        boundary.asks("both cost the same", () -> Boundary.planned("00112233", 5, 8, 0), coder -> coder.gain(), 0);
        boundary.asks("two are cheaper", () -> Boundary.planned("00112233", 5, 7, 0), coder -> coder.gain(), 1);
        boundary.asks("a difference of -1", () -> {
            BlockCoder coder = Boundary.withSettings("00", 5, 1, 0, 1);
            coder.plan();
            return coder;
        }, coder -> coder.gain(), -1);
        boundary.asks("a great loss", () -> {
            BlockCoder coder = Boundary.withSettings("9".repeat(80), 5, 200, 20, 1);
            coder.plan();
            return coder;
        }, coder -> coder.gain(), 300 - 80 * 221);
    }
}
