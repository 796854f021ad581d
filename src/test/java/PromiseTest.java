/** Each promise by hand: ordinary inputs, the edges that the document names, and wrong inputs. */
public final class PromiseTest {
    private static final int LEAST = Integer.MIN_VALUE;
    private static final int MOST = Integer.MAX_VALUE;

    private final Check check = new Check();

    private PromiseTest() {
    }

    public static void main(String[] args) {
        PromiseTest test = new PromiseTest();
        test.newObject();
        test.append();
        test.feed();
        test.set();
        test.cut();
        test.sizeAndCount();
        test.setLimit();
        test.setPrices();
        test.setGreatest();
        test.costOf();
        test.planOfSeveralBestOnes();
        test.planStays();
        test.planIsDropped();
        test.planSurvivesExceptions();
        test.withoutPlan();
        test.costAndStart();
        test.lengths();
        test.limitedLengths();
        test.wordsAndSlack();
        test.look();
        test.gain();
        test.write();
        test.bits();
        test.read();
        test.readDamaged();
        test.differences();
        test.average();
        test.digest();
        test.fullOfEverything();
        test.check.finish("PromiseTest");
    }

    /** The text is given by hexadecimal digits, a symbol each. */
    private static BlockCoder coderOf(String symbols) {
        BlockCoder coder = new BlockCoder();
        for (int i = 0; i < symbols.length(); i++) {
            coder.append(Character.digit(symbols.charAt(i), 16), 1);
        }
        return coder;
    }

    private static BlockCoder plannedOf(String symbols, int limit, int header, int symbol) {
        BlockCoder coder = coderOf(symbols);
        coder.setLimit(limit);
        coder.setPrices(header, symbol);
        coder.plan();
        return coder;
    }

    private static String textOf(BlockCoder coder) {
        StringBuilder text = new StringBuilder();
        for (int place = 0; place < coder.size(); place++) {
            for (int symbol = 0; symbol < 16; symbol++) {
                if (coder.count(place, place + 1, symbol) == 1) {
                    text.append(Character.forDigit(symbol, 16));
                }
            }
        }
        return text.toString();
    }

    private static String bitsOf(BlockCoder coder) {
        StringBuilder bits = new StringBuilder();
        for (int index = 0; index < coder.bitCount(); index++) {
            bits.append(coder.bit(index));
        }
        return bits.toString();
    }

    private static String readingOf(BlockCoder coder, int total) {
        StringBuilder text = new StringBuilder();
        for (int index = 0; index < total; index++) {
            text.append(Character.forDigit(coder.got(index), 16));
        }
        return text.toString();
    }

    private static String lengthsOf(BlockCoder coder, int block) {
        StringBuilder lengths = new StringBuilder();
        for (int symbol = 0; symbol < 16; symbol++) {
            lengths.append(coder.length(block, symbol));
        }
        return lengths.toString();
    }

    private static String startsOf(BlockCoder coder) {
        StringBuilder starts = new StringBuilder();
        int blocks = coder.plan();
        for (int block = 0; block < blocks; block++) {
            starts.append(coder.start(block)).append(' ');
        }
        return starts.toString().trim();
    }

    private static long digestOf(int... numbers) {
        long d = 101;
        for (int x : numbers) {
            d = d * 31 + x;
        }
        return d;
    }

    private void newObject() {
        BlockCoder coder = new BlockCoder();
        check.due("new: size", 0, coder::size);
        check.due("new: hasPlan", false, coder::hasPlan);
        check.due("new: bitCount", 0, coder::bitCount);
        check.due("new: differences", 0, coder::differences);
        check.outOfBounds("new: got(0)", () -> coder.got(0));
        check.due("new: digest", digestOf(5, 20, 4, 80, 0, 0), coder::digest);
        check.due("new: limit", 5, () -> coder.setLimit(5));
        check.due("new: prices", false, () -> coder.setPrices(20, 4));
        check.due("new: greatest", 80, () -> coder.setGreatest(80));
    }

    private void append() {
        BlockCoder coder = new BlockCoder();
        check.due("append(0, 1)", 1, () -> coder.append(0, 1));
        check.due("append(15, 3)", 4, () -> coder.append(15, 3));
        check.same("appended", textOf(coder), "0fff");
        for (int symbol : new int[] {-1, 16, LEAST, MOST}) {
            check.illegalArgument("append symbol " + symbol, () -> coder.append(symbol, 1));
        }
        for (int many : new int[] {0, -1, 81, LEAST, MOST}) {
            check.illegalArgument("append many " + many, () -> coder.append(1, many));
        }
        check.illegalState("append to 84", () -> coder.append(1, 80));
        check.illegalState("append to 81", () -> coder.append(1, 77));
        check.illegalArgument("append wrong and too much", () -> coder.append(16, 80));
        check.same("still", textOf(coder), "0fff");
        check.due("append to 80", 80, () -> coder.append(1, 76));
        check.illegalState("append to full", () -> coder.append(1, 1));
        check.due("append 80 at once", 80, () -> new BlockCoder().append(7, 80));
    }

    private void feed() {
        BlockCoder coder = new BlockCoder();
        check.due("feed all", 16, () -> coder.feed(0xFEDCBA9876543210L, 16));
        check.due("feed one", 17, () -> coder.feed(0x9000000000000000L, 1));
        check.due("feed two", 19, () -> coder.feed(0x12FFFFFFFFFFFFFFL, 2));
        check.same("fed", textOf(coder), "fedcba9876543210912");
        for (int many : new int[] {0, -1, 17, LEAST, MOST}) {
            check.illegalArgument("feed many " + many, () -> coder.feed(0, many));
        }
        coder.append(3, 46);
        check.illegalState("feed to 81", () -> coder.feed(0, 16));
        check.due("feed to 80", 80, () -> coder.feed(0x5555555555555555L, 15));
        check.illegalState("feed to full", () -> coder.feed(0, 1));
        check.illegalArgument("feed wrong to full", () -> coder.feed(0, 17));
    }

    private void set() {
        BlockCoder coder = coderOf("123");
        check.due("set(0, 15)", 1, () -> coder.set(0, 15));
        check.due("set(2, 0)", 3, () -> coder.set(2, 0));
        check.due("set the same", 0, () -> coder.set(2, 0));
        check.same("after set", textOf(coder), "f20");
        for (int place : new int[] {-1, 3, LEAST, MOST}) {
            check.outOfBounds("set place " + place, () -> coder.set(place, 1));
            check.outOfBounds("set both wrong " + place, () -> coder.set(place, 16));
        }
        for (int symbol : new int[] {-1, 16, LEAST, MOST}) {
            check.illegalArgument("set symbol " + symbol, () -> coder.set(0, symbol));
        }
        check.outOfBounds("set in an empty text", () -> new BlockCoder().set(0, 0));
        check.same("still", textOf(coder), "f20");
    }

    private void cut() {
        BlockCoder coder = coderOf("12345");
        check.due("cut(0)", 5, () -> coder.cut(0));
        check.due("cut(2)", 3, () -> coder.cut(2));
        check.same("after cut", textOf(coder), "123");
        for (int many : new int[] {-1, 4, LEAST, MOST}) {
            check.illegalArgument("cut " + many, () -> coder.cut(many));
        }
        check.due("cut all", 0, () -> coder.cut(3));
        check.due("cut none of none", 0, () -> coder.cut(0));
        check.illegalArgument("cut one of none", () -> coder.cut(1));
    }

    private void sizeAndCount() {
        BlockCoder coder = coderOf("0102030f");
        check.due("size", 8, coder::size);
        check.due("count all", 4, () -> coder.count(0, 8, 0));
        check.due("count without the last", 0, () -> coder.count(0, 7, 15));
        check.due("count the last", 1, () -> coder.count(7, 8, 15));
        check.due("count without the first", 3, () -> coder.count(1, 8, 0));
        check.due("count nothing", 0, () -> coder.count(8, 8, 0));
        check.outOfBounds("count from -1", () -> coder.count(-1, 8, 0));
        check.outOfBounds("count to 9", () -> coder.count(0, 9, 0));
        check.outOfBounds("count 3 to 2", () -> coder.count(3, 2, 0));
        check.outOfBounds("count from 9 to 9", () -> coder.count(9, 9, 0));
        check.outOfBounds("count symbol -1", () -> coder.count(0, 8, -1));
        check.outOfBounds("count symbol 16", () -> coder.count(0, 8, 16));
        check.outOfBounds("count the ends of int", () -> coder.count(LEAST, MOST, MOST));
        check.outOfBounds("count symbol 16 at no places", () -> coder.count(2, 2, 16));
    }

    private void setLimit() {
        BlockCoder coder = new BlockCoder();
        check.due("setLimit(1)", 5, () -> coder.setLimit(1));
        check.due("setLimit(6)", 1, () -> coder.setLimit(6));
        for (int limit : new int[] {0, -1, 7, LEAST, MOST}) {
            check.illegalArgument("setLimit " + limit, () -> coder.setLimit(limit));
        }
        check.due("setLimit again", 6, () -> coder.setLimit(6));
    }

    private void setPrices() {
        BlockCoder coder = new BlockCoder();
        check.due("header changes", true, () -> coder.setPrices(200, 4));
        check.due("symbol changes", true, () -> coder.setPrices(200, 20));
        check.due("nothing changes", false, () -> coder.setPrices(200, 20));
        check.illegalArgument("header -1", () -> coder.setPrices(-1, 0));
        check.illegalArgument("header 201", () -> coder.setPrices(201, 0));
        check.illegalArgument("symbol -1", () -> coder.setPrices(0, -1));
        check.illegalArgument("symbol 21", () -> coder.setPrices(0, 21));
        check.illegalArgument("ends of int", () -> coder.setPrices(LEAST, MOST));
        check.due("still", false, () -> coder.setPrices(200, 20));
        check.due("both change", true, () -> coder.setPrices(0, 0));
        check.due("swapped is another", true, () -> coder.setPrices(3, 5));
        check.due("swapped again", true, () -> coder.setPrices(5, 3));
    }

    private void setGreatest() {
        BlockCoder coder = new BlockCoder();
        check.due("setGreatest(1)", 80, () -> coder.setGreatest(1));
        check.due("setGreatest(80)", 1, () -> coder.setGreatest(80));
        for (int size : new int[] {0, -1, 81, LEAST, MOST}) {
            check.illegalArgument("setGreatest " + size, () -> coder.setGreatest(size));
        }
        coder.setPrices(1, 0);
        coder.append(4, 10);
        coder.setGreatest(4);
        check.due("three blocks", 3, coder::plan);
        // The cost and the number of blocks leave a choice: the first ones are the longest.
        check.same("starts", startsOf(coder), "0 4 8");
    }

    private void costOf() {
        BlockCoder coder = coderOf("00001123");
        coder.setPrices(7, 3);
        // 4, 2, 1, 1 times: lengths 1, 2, 3, 3.
        check.due("costOf all", 7 + 4 * 3 + 14, () -> coder.costOf(0, 8));
        check.due("costOf one symbol", 7 + 3 + 4, () -> coder.costOf(0, 4));
        check.due("costOf one place", 7 + 3 + 1, () -> coder.costOf(7, 8));
        check.due("costOf the middle", 7 + 2 * 3 + 3, () -> coder.costOf(3, 6));
        coder.setGreatest(1);
        check.due("whatever the greatest size is", 7 + 4 * 3 + 14, () -> coder.costOf(0, 8));
        coder.setLimit(2);
        check.due("costOf with limit 2", 7 + 4 * 3 + 16, () -> coder.costOf(0, 8));
        coder.setLimit(1);
        check.due("no code", -1, () -> coder.costOf(0, 8));
        check.due("three symbols, limit 1", -1, () -> coder.costOf(3, 7));
        check.due("two symbols, limit 1", 7 + 2 * 3 + 6, () -> coder.costOf(0, 6));
        check.outOfBounds("costOf from -1", () -> coder.costOf(-1, 8));
        check.outOfBounds("costOf to 9", () -> coder.costOf(0, 9));
        check.outOfBounds("costOf nothing", () -> coder.costOf(3, 3));
        check.outOfBounds("costOf backwards", () -> coder.costOf(4, 3));
        check.outOfBounds("costOf the ends of int", () -> coder.costOf(LEAST, MOST));
        check.outOfBounds("costOf in an empty text", () -> new BlockCoder().costOf(0, 0));
        check.due("costOf makes no plan", false, coder::hasPlan);
        BlockCoder all = new BlockCoder();
        all.feed(0x0123456789ABCDEFL, 16);
        all.setLimit(4);
        check.due("16 symbols, limit 4", 20 + 64 + 64, () -> all.costOf(0, 16));
        all.setLimit(3);
        check.due("16 symbols, limit 3", -1, () -> all.costOf(0, 16));
        check.due("8 symbols, limit 3", 20 + 32 + 24, () -> all.costOf(0, 8));
        check.due("9 symbols, limit 3", -1, () -> all.costOf(0, 9));
    }

    private void planOfSeveralBestOnes() {
        BlockCoder cheapest = plannedOf("0000111122223333", 5, 2, 0);
        // One block: 2 + 32. Two of two symbols: 2 * (2 + 8). Four of one symbol: 4 * (2 + 4).
        check.due("two blocks are cheapest", 20, cheapest::cost);
        check.same("starts of the cheapest", startsOf(cheapest), "0 8");
        BlockCoder fewest = plannedOf("00112233", 5, 0, 0);
        check.due("blocks of up to two symbols cost 1 a place", 8, fewest::cost);
        check.same("the fewest blocks", startsOf(fewest), "0 4");
        BlockCoder longest = plannedOf("0123401234", 1, 0, 0);
        check.same("two symbols a block", startsOf(longest), "0 2 4 6 8");
        BlockCoder first = plannedOf("0122", 1, 0, 0);
        check.same("of two splits, the longest first block", startsOf(first), "0 2");
        BlockCoder second = plannedOf("011220", 1, 0, 0);
        check.same("the first block is longest, not the second", startsOf(second), "0 3");
        BlockCoder longestFirst = new BlockCoder();
        longestFirst.append(9, 7);
        longestFirst.setGreatest(3);
        check.due("7 places, at most 3 each", 3, longestFirst::plan);
        check.same("then the second one", startsOf(longestFirst), "0 3 6");
        BlockCoder none = new BlockCoder();
        check.due("no blocks", 0, none::plan);
        check.due("but a plan", true, none::hasPlan);
    }

    private void planStays() {
        BlockCoder coder = coderOf("00112");
        check.due("plan", 1, coder::plan);
        check.due("write", 8, coder::write);
        coder.flip(0);
        String bits = bitsOf(coder);
        check.due("plan again", 1, coder::plan);
        check.same("the bits stay", bitsOf(coder), bits);
        long digest = coder.digest();
        coder.costOf(0, 5);
        coder.count(0, 5, 0);
        coder.gain();
        coder.look(0, 0);
        coder.read();
        check.due("asking changes nothing", digest, coder::digest);
    }

    private void planIsDropped() {
        dropped("append", coder -> coder.append(0, 1));
        dropped("feed", coder -> coder.feed(0, 1));
        dropped("set", coder -> coder.set(0, 0));
        dropped("cut", coder -> coder.cut(0));
        dropped("setLimit", coder -> coder.setLimit(5));
        dropped("setPrices", coder -> coder.setPrices(20, 4));
        dropped("setGreatest", coder -> coder.setGreatest(80));
    }

    private interface Use {
        void of(BlockCoder coder);
    }

    private void dropped(String name, Use use) {
        BlockCoder coder = coderOf("00112");
        coder.plan();
        coder.write();
        coder.read();
        use.of(coder);
        check.due(name + " drops the plan", false, coder::hasPlan);
        check.due(name + " drops the bits", 0, coder::bitCount);
        check.outOfBounds(name + " leaves no bit", () -> coder.bit(0));
        check.illegalState(name + " leaves no cost", coder::cost);
        check.same(name + " leaves what was read", readingOf(coder, 5), "00112");
        coder.plan();
        check.due(name + ": a new plan has no bits", 0, coder::bitCount);
    }

    private void planSurvivesExceptions() {
        BlockCoder coder = coderOf("00112");
        coder.plan();
        coder.write();
        coder.read();
        long digest = coder.digest();
        check.illegalArgument("append", () -> coder.append(16, 1));
        check.illegalState("append too much", () -> coder.append(0, 80));
        check.illegalArgument("feed", () -> coder.feed(0, 17));
        check.outOfBounds("set", () -> coder.set(5, 0));
        check.illegalArgument("set symbol", () -> coder.set(0, 16));
        check.illegalArgument("cut", () -> coder.cut(6));
        check.illegalArgument("setLimit", () -> coder.setLimit(7));
        check.illegalArgument("setPrices", () -> coder.setPrices(0, 21));
        check.illegalArgument("setPrices header", () -> coder.setPrices(201, 20));
        check.illegalArgument("setGreatest", () -> coder.setGreatest(0));
        check.outOfBounds("flip", () -> coder.flip(8));
        check.due("exceptions change nothing", digest, coder::digest);
        check.same("nor what was read", readingOf(coder, 5), "00112");
    }

    private void withoutPlan() {
        BlockCoder coder = coderOf("01");
        check.due("hasPlan", false, coder::hasPlan);
        check.illegalState("cost", coder::cost);
        check.illegalState("start", () -> coder.start(-1));
        check.illegalState("length", () -> coder.length(-1, 16));
        check.illegalState("word", () -> coder.word(-1, 16));
        check.illegalState("slack", () -> coder.slack(-1));
        check.illegalState("look", () -> coder.look(-1, -1));
        check.illegalState("gain", coder::gain);
        check.illegalState("gain of an empty text", () -> new BlockCoder().gain());
        check.illegalState("write", coder::write);
        check.illegalState("read", coder::read);
        check.illegalState("average", coder::average);
        check.illegalState("average of an empty text", () -> new BlockCoder().average());
    }

    private void costAndStart() {
        BlockCoder coder = plannedOf("0000111122223333", 5, 2, 0);
        check.due("hasPlan", true, coder::hasPlan);
        check.due("cost", 20, coder::cost);
        check.due("start(0)", 0, () -> coder.start(0));
        check.due("start(1)", 8, () -> coder.start(1));
        for (int block : new int[] {-1, 2, LEAST, MOST}) {
            check.outOfBounds("start " + block, () -> coder.start(block));
            check.outOfBounds("length of block " + block, () -> coder.length(block, 0));
            check.outOfBounds("word of block " + block, () -> coder.word(block, 0));
            check.outOfBounds("slack of block " + block, () -> coder.slack(block));
            check.outOfBounds("look at block " + block, () -> coder.look(block, -1));
        }
        BlockCoder empty = new BlockCoder();
        empty.plan();
        check.due("cost of no blocks", 0, empty::cost);
        check.outOfBounds("start of no block", () -> empty.start(0));
        check.outOfBounds("slack of no block", () -> empty.slack(0));
    }

    private void lengths() {
        check.same("one symbol", lengthsOf(plannedOf("777", 5, 20, 4), 0), "0000000100000000");
        check.same("two symbols", lengthsOf(plannedOf("f0f", 5, 20, 4), 0), "1000000000000001");
        // Of three equal ones, the smallest symbol gets the short word.
        check.same("three equal", lengthsOf(plannedOf("210", 5, 20, 4), 0), "1220000000000000");
        check.same("three, the last is frequent", lengthsOf(plannedOf("2102", 5, 20, 4), 0), "2210000000000000");
        // Counts 1 1 1 2: both 2222 and 3321 in some order sum to 10; the smallest for symbol 0 is 2, then 2.
        check.same("two shapes", lengthsOf(plannedOf("01233", 5, 20, 4), 0), "2222000000000000");
        // Counts 2 2 1 1: 2222 and 1233 both sum to 12.
        check.same("two shapes, the other", lengthsOf(plannedOf("001123", 5, 20, 4), 0), "1233000000000000");
        check.same("two shapes, limit 2", lengthsOf(plannedOf("001123", 2, 20, 4), 0), "2222000000000000");
        BlockCoder coder = plannedOf("0000111122223333", 5, 2, 0);
        check.same("the second block's own code", lengthsOf(coder, 1), "0011000000000000");
        for (int symbol : new int[] {-1, 16, LEAST, MOST}) {
            check.outOfBounds("length of symbol " + symbol, () -> coder.length(0, symbol));
            check.outOfBounds("word of symbol " + symbol, () -> coder.word(0, symbol));
        }
    }

    private void limitedLengths() {
        // Counts 1 1 2 3 5 8 13: without a limit the lengths are 6 6 5 4 3 2 1.
        String fibonacci = "0" + "1" + "22" + "333" + "44444" + "55555555" + "6666666666666";
        check.same("limit 6", lengthsOf(plannedOf(fibonacci, 6, 200, 0), 0), "6654321000000000");
        BlockCoder five = plannedOf(fibonacci, 5, 200, 0);
        check.due("limit 5: one more", 200 + 78 + 1, five::cost);
        // 5555321 sums to 79, too, but 4 is smaller than 5 at symbol 2.
        check.same("limit 5", lengthsOf(five, 0), "5543222000000000");
        BlockCoder three = plannedOf(fibonacci, 3, 200, 0);
        check.same("limit 3", lengthsOf(three, 0), "3333332000000000");
        check.due("limit 3: cost", 200 + 3 * 20 + 2 * 13, three::cost);
        BlockCoder full = plannedOf("0123456789abcdef", 4, 200, 0);
        check.same("16 symbols, limit 4", lengthsOf(full, 0), "4444444444444444");
        check.due("16 symbols, limit 4: slack", 0, () -> full.slack(0));
    }

    private void wordsAndSlack() {
        BlockCoder coder = plannedOf("2102", 5, 20, 4);
        check.due("word of the shortest", 0, () -> coder.word(0, 2));
        check.due("word of the next", 2, () -> coder.word(0, 0));
        check.due("word of the last", 3, () -> coder.word(0, 1));
        check.due("no word", -1, () -> coder.word(0, 3));
        check.due("slack of a full code", 0, () -> coder.slack(0));
        BlockCoder steep = plannedOf("000000001111223", 5, 20, 4);
        check.due("word 0", 0, () -> steep.word(0, 0));
        check.due("word 10", 2, () -> steep.word(0, 1));
        check.due("word 110", 6, () -> steep.word(0, 2));
        check.due("word 111", 7, () -> steep.word(0, 3));
        BlockCoder flat = plannedOf("01233", 5, 20, 4);
        check.due("the first word of two bits", 0, () -> flat.word(0, 0));
        check.due("the last word of two bits", 3, () -> flat.word(0, 3));
        for (int limit = 1; limit <= 6; limit++) {
            BlockCoder lone = plannedOf("5", limit, 20, 4);
            check.due("slack of one symbol, limit " + limit, 1 << (limit - 1), () -> lone.slack(0));
            check.due("word of one symbol", 0, () -> lone.word(0, 5));
        }
    }

    private void look() {
        BlockCoder coder = plannedOf("2102", 3, 20, 4);
        check.due("look 000", 16 + 2, () -> coder.look(0, 0));
        check.due("look 011", 16 + 2, () -> coder.look(0, 3));
        check.due("look 100", 32, () -> coder.look(0, 4));
        check.due("look 101", 32, () -> coder.look(0, 5));
        check.due("look 110", 33, () -> coder.look(0, 6));
        check.due("look 111", 33, () -> coder.look(0, 7));
        for (int bits : new int[] {-1, 8, LEAST, MOST}) {
            check.illegalArgument("look " + bits, () -> coder.look(0, bits));
            check.outOfBounds("look at no block " + bits, () -> coder.look(1, bits));
        }
        BlockCoder lone = plannedOf("f", 6, 20, 4);
        check.due("look at 31 with one word", 16 + 15, () -> lone.look(0, 31));
        check.due("look at 32 with one word", -1, () -> lone.look(0, 32));
        check.due("look at 63 with one word", -1, () -> lone.look(0, 63));
        BlockCoder least = plannedOf("01", 1, 20, 4);
        check.due("look with limit 1", 17, () -> least.look(0, 1));
        check.illegalArgument("look at 2 with limit 1", () -> least.look(0, 2));
    }

    private void gain() {
        BlockCoder coder = plannedOf("0000111122223333", 5, 2, 0);
        check.due("gain", 34 - 20, coder::gain);
        check.due("no gain", 0, () -> plannedOf("0", 5, 20, 4).gain());
        check.due("no code as a whole", -1, () -> plannedOf("012", 1, 20, 4).gain());
        BlockCoder small = coderOf("0000");
        small.setGreatest(1);
        small.plan();
        check.due("a loss", (20 + 4 + 4) - 4 * (20 + 4 + 1), small::gain);
        BlockCoder empty = new BlockCoder();
        empty.plan();
        check.noSuchElement("gain of an empty text", empty::gain);
    }

    private void write() {
        BlockCoder coder = plannedOf("2102", 5, 20, 4);
        check.due("write", 6, coder::write);
        check.same("bits", bitsOf(coder), "011100");
        coder.flip(0);
        check.due("write again", 6, coder::write);
        check.same("bits again", bitsOf(coder), "011100");
        BlockCoder blocks = plannedOf("0000111122223333", 5, 2, 0);
        check.due("write two blocks", 16, blocks::write);
        check.same("bits of two blocks", bitsOf(blocks), "0000111100001111");
        BlockCoder empty = new BlockCoder();
        empty.plan();
        check.due("write nothing", 0, empty::write);
    }

    private void bits() {
        BlockCoder coder = plannedOf("2102", 5, 20, 4);
        check.due("no bits before write", 0, coder::bitCount);
        check.outOfBounds("bit before write", () -> coder.bit(0));
        check.outOfBounds("flip before write", () -> coder.flip(0));
        coder.write();
        check.due("bitCount", 6, coder::bitCount);
        check.due("bit(0)", 0, () -> coder.bit(0));
        check.due("bit(1)", 1, () -> coder.bit(1));
        check.due("bit(5)", 0, () -> coder.bit(5));
        check.due("flip(5)", 0, () -> coder.flip(5));
        check.due("flipped", 1, () -> coder.bit(5));
        check.due("flip(5) back", 1, () -> coder.flip(5));
        check.due("flipped back", 0, () -> coder.bit(5));
        for (int index : new int[] {-1, 6, LEAST, MOST}) {
            check.outOfBounds("bit " + index, () -> coder.bit(index));
            check.outOfBounds("flip " + index, () -> coder.flip(index));
        }
    }

    private void read() {
        BlockCoder coder = plannedOf("0000111122223333", 5, 2, 0);
        check.due("read what is not written", 0, coder::read);
        check.outOfBounds("got nothing", () -> coder.got(0));
        coder.write();
        check.outOfBounds("writing reads nothing", () -> coder.got(0));
        check.due("read", 16, coder::read);
        check.same("what was read", readingOf(coder, 16), "0000111122223333");
        for (int index : new int[] {-1, 16, LEAST, MOST}) {
            check.outOfBounds("got " + index, () -> coder.got(index));
        }
        coder.cut(10);
        check.illegalState("read without a plan", coder::read);
        check.due("got stays", 3, () -> coder.got(15));
        coder.plan();
        check.due("got stays with a new plan", 3, () -> coder.got(15));
        check.due("read nothing again", 0, coder::read);
        check.outOfBounds("the latest reading read nothing", () -> coder.got(0));
    }

    private void readDamaged() {
        BlockCoder lone = plannedOf("5555", 5, 20, 4);
        lone.write();
        lone.flip(2);
        check.due("no word found", 2, lone::read);
        check.due("got up to there", 5, () -> lone.got(1));
        check.outOfBounds("got no more", () -> lone.got(2));
        check.due("differences", 2, lone::differences);
        BlockCoder coder = plannedOf("2102", 5, 20, 4);
        coder.write();
        coder.flip(5);
        // 01110 1: the last word has only one of its two bits.
        check.due("no more bits", 3, coder::read);
        coder.flip(5);
        coder.flip(1);
        // 0 0 11 0 with a bit left over.
        check.due("bits left over", 4, coder::read);
        check.same("damaged", readingOf(coder, 4), "2212");
        check.due("damaged differences", 2, coder::differences);
        coder.flip(0);
        coder.flip(1);
        coder.flip(4);
        // 11 11 10
        check.due("too few words", 3, coder::read);
        check.same("too few", readingOf(coder, 3), "110");
        check.due("too few: differences", 2, coder::differences);
        BlockCoder shorter = plannedOf("0000111122223333", 5, 2, 0);
        shorter.cut(16);
        shorter.feed(0x2102000000000000L, 4);
        shorter.setPrices(20, 4);
        shorter.plan();
        shorter.write();
        shorter.flip(1);
        check.due("bits left over are no second block's", 4, shorter::read);
    }

    private void differences() {
        BlockCoder coder = plannedOf("2102", 5, 20, 4);
        check.due("nothing read yet", 4, coder::differences);
        coder.write();
        coder.read();
        check.due("all the same", 0, coder::differences);
        coder.append(3, 2);
        check.due("the text is longer", 2, coder::differences);
        coder.cut(5);
        check.due("the text is shorter", 3, coder::differences);
        coder.set(0, 9);
        check.due("and another", 4, coder::differences);
        coder.cut(1);
        check.due("the text is empty", 4, coder::differences);
    }

    private void average() {
        BlockCoder coder = plannedOf("2102", 5, 20, 4);
        check.due("average", 1.5, coder::average);
        check.due("average of three", 5.0 / 3, () -> plannedOf("012", 5, 20, 4).average());
        check.due("average of two blocks", 1.0, () -> plannedOf("0000111122223333", 5, 2, 0).average());
        BlockCoder empty = new BlockCoder();
        empty.plan();
        check.due("average of nothing", 0.0, empty::average);
    }

    private void digest() {
        BlockCoder coder = coderOf("2102");
        check.due("no plan", digestOf(5, 20, 4, 80, 4, 2, 1, 0, 2, 0), coder::digest);
        coder.plan();
        check.due("a plan", digestOf(5, 20, 4, 80, 4, 2, 1, 0, 2, 38, 1,
            0, 2, 2, 1, 0, 0, 0, 0, 0, 0, 0, 0, 0, 0, 0, 0, 0, 0), coder::digest);
        coder.write();
        coder.flip(0);
        check.due("a plan and bits", digestOf(5, 20, 4, 80, 4, 2, 1, 0, 2, 38, 1,
            0, 2, 2, 1, 0, 0, 0, 0, 0, 0, 0, 0, 0, 0, 0, 0, 0, 6, 1, 1, 1, 1, 0, 0), coder::digest);
        coder.setLimit(3);
        coder.setPrices(7, 1);
        coder.setGreatest(2);
        check.due("other settings", digestOf(3, 7, 1, 2, 4, 2, 1, 0, 2, 0), coder::digest);
        coder.plan();
        check.due("two blocks", digestOf(3, 7, 1, 2, 4, 2, 1, 0, 2, 22, 2,
            0, 0, 1, 1, 0, 0, 0, 0, 0, 0, 0, 0, 0, 0, 0, 0, 0,
            2, 1, 0, 1, 0, 0, 0, 0, 0, 0, 0, 0, 0, 0, 0, 0, 0, 0), coder::digest);
        BlockCoder empty = new BlockCoder();
        empty.plan();
        check.due("an empty plan", digestOf(5, 20, 4, 80, 0, 0, 0, 0), empty::digest);
    }

    /** 80 blocks with a header each, and 80 places with words as long as can be. */
    private void fullOfEverything() {
        BlockCoder coder = new BlockCoder();
        for (int i = 0; i < 5; i++) {
            coder.feed(0x0123456789ABCDEFL, 16);
        }
        coder.setGreatest(1);
        coder.setPrices(200, 20);
        check.due("80 blocks", 80, coder::plan);
        check.due("the greatest cost", 80 * 221, coder::cost);
        check.due("start of the last", 79, () -> coder.start(79));
        check.due("length in the last", 1, () -> coder.length(79, 15));
        check.due("80 bits", 80, coder::write);
        coder.setGreatest(80);
        coder.setLimit(4);
        check.due("one block", 1, coder::plan);
        check.due("320 bits", 320, coder::write);
        check.due("read 80", 80, coder::read);
        check.due("no differences", 0, coder::differences);
    }
}
