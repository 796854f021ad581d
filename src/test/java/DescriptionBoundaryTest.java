import java.util.LinkedHashMap;
import java.util.Map;

/** The boundary cases of the description: codes, words, plans, what is kept, and how long. */
public final class DescriptionBoundaryTest {
    private static final int MOST_CALLS = 512;
    private static final String DIFFERENT = "0123456789abcdef";

    private final Boundary boundary = new Boundary();

    private DescriptionBoundaryTest() {
    }

    public static void main(String[] args) {
        DescriptionBoundaryTest test = new DescriptionBoundaryTest();
        test.lengthsAre1ToL();
        test.sumIsAtMost2ToTheL();
        test.bestCodeAtAndBesideATie();
        test.ofSeveralBestCodes();
        test.theLimitEndsATie();
        test.firstWordIs0();
        test.nextWordIsOneMore();
        test.multipliedForEachBitMore();
        test.leastCost();
        test.fewestBlocks();
        test.fewestBeforeLongest();
        test.longestFirstBlock();
        test.longestSecondBlock();
        test.noBlockIsEmpty();
        test.textWithoutSymbols();
        test.thereIsAlwaysAPlan();
        test.planEndsWithAChange();
        test.planEndsAlsoIfNothingChanges();
        test.planOutlivesARefusedCall();
        test.planOutlivesQuestions();
        test.bitsEndWithThePlan();
        test.the512thCall();
        test.boundary.finish("DescriptionBoundaryTest");
    }

    private void code(String name, BlockCoder coder, String due) {
        boundary.same(name, Boundary.lengthsOf(coder, 0), due);
    }

    /** "gives a length, 1 to L, to each symbol that occurs": not 0, although one word needs no bit. */
    private void lengthsAre1ToL() {
        boundary.about("Promise 16, codes: a length is 1 to L");
        for (int limit = 1; limit <= 6; limit++) {
            code("one symbol, limit " + limit, Boundary.planned("0", limit, 20, 4), "1");
            code("one symbol 80 times, limit " + limit, Boundary.planned("0".repeat(80), limit, 20, 4), "1");
        }
        code("as long as the limit", Boundary.planned(Boundary.DEEP, 6, 200, 0), "6654321");
        code("one bit less than wanted", Boundary.planned(Boundary.DEEP, 5, 200, 0), "5543222");
        code("limit 1", Boundary.planned("0" + "1".repeat(79), 1, 200, 0), "11");
    }

    /** "The sum of 2^(L - length) .. is at most 2^L": it can be 2^L with the longest words alone. */
    private void sumIsAtMost2ToTheL() {
        boundary.about("Promise 16, codes: the sum is at most 2^L");
        for (int limit = 1; limit <= 4; limit++) {
            int most = 1 << limit;
            String longest = String.valueOf(limit);
            code("2^L symbols, limit " + limit, Boundary.planned(DIFFERENT.substring(0, most), limit, 200, 0),
                longest.repeat(most));
            if (limit > 1) {
                code("2^L - 1 symbols, limit " + limit, Boundary.planned(DIFFERENT.substring(0, most - 1), limit, 200, 0),
                    (limit - 1) + longest.repeat(most - 2));
            }
            if (most < 16) {
                BlockCoder over = Boundary.withSettings(DIFFERENT, limit, 200, 0, 80);
                boundary.same("2^L + 1 symbols, limit " + limit, over.costOf(0, most + 1), -1);
            }
        }
        code("2^L symbols, one of them often", Boundary.planned("0".repeat(70) + "123", 2, 200, 0), "2222");
        code("2^L - 1 symbols, one of them often", Boundary.planned("0".repeat(70) + "12", 2, 200, 0), "122");
    }

    /** "the sum of the lengths, over all places of the block, is least": counts 1 1 1 1, 2 1 1 1, 3 1 1 1. */
    private void bestCodeAtAndBesideATie() {
        boundary.about("Promise 16, codes: a best code");
        code("2222 is best", Boundary.planned("0123", 5, 200, 0), "2222");
        code("2222 and 1233 are best", Boundary.planned("00123", 5, 200, 0), "1233");
        code("1233 is best", Boundary.planned("000123", 5, 200, 0), "1233");
        code("the last is frequent: 2222 and 2331 are best", Boundary.planned("01233", 5, 200, 0), "2222");
        code("the last is frequent: 2331 is best", Boundary.planned("012333", 5, 200, 0), "2331");
    }

    /** "at the smallest symbol for which it differs from another best code, its length is smaller". */
    private void ofSeveralBestCodes() {
        boundary.about("Promise 16, codes: of several best codes");
        code("three equal ones", Boundary.planned("210", 5, 200, 0), "122");
        code("the second is frequent", Boundary.planned("01123", 5, 200, 0), "2133");
        code("the third is frequent", Boundary.planned("01223", 5, 200, 0), "2222");
        code("they differ at the last two", Boundary.planned("000011123", 5, 200, 0), "1233");
        code("five equal ones", Boundary.planned("01234", 5, 200, 0), "22233");
        code("fifteen equal ones", Boundary.planned("0123456789abcde", 5, 200, 0), "3" + "4".repeat(14));
        code("not in the order of the text", Boundary.planned("cba", 5, 200, 0), "0000000000" + "122");
    }

    /** Counts 2 2 1 1: of 2222 and 1233, limit 2 leaves the first alone. */
    private void theLimitEndsATie() {
        boundary.about("Promise 16, codes: the limit ends a tie");
        code("limit 2", Boundary.planned("001123", 2, 200, 0), "2222");
        code("limit 3", Boundary.planned("001123", 3, 200, 0), "1233");
        code("limit 4", Boundary.planned("001123", 4, 200, 0), "1233");
    }

    /** "the first word is 0", however long it is. */
    private void firstWordIs0() {
        boundary.about("Promise 17, codes: the first word is 0");
        boundary.same("one bit", Boundary.planned("7").word(0, 7), 0);
        boundary.same("two bits", Boundary.planned("0123", 5, 200, 0).word(0, 0), 0);
        boundary.same("four bits", Boundary.planned(DIFFERENT, 5, 200, 0).word(0, 0), 0);
        boundary.same("the greatest symbol has it", Boundary.planned("0eff", 5, 200, 0).word(0, 15), 0);
    }

    /** "each next word is the one before plus 1", in ascending order of lengths, then of symbols. */
    private void nextWordIsOneMore() {
        boundary.about("Promise 17, codes: the next word");
        words("the same length", Boundary.planned("3210", 5, 200, 0), "0 1 2 3");
        words("not by how often they occur", Boundary.planned("01233", 5, 200, 0), "0 1 2 3");
        words("the shortest is the last symbol", Boundary.planned("2102", 5, 200, 0), "2 3 0");
        words("three equal ones", Boundary.planned("210", 5, 200, 0), "0 2 3");
        words("symbols in between do not occur", Boundary.planned("0202", 5, 200, 0), "0 -1 1");
    }

    private void words(String name, BlockCoder coder, String due) {
        StringBuilder words = new StringBuilder();
        int total = due.split(" ").length;
        for (int symbol = 0; symbol < total; symbol++) {
            words.append(symbol == 0 ? "" : " ").append(coder.word(0, symbol));
        }
        boundary.same(name, words, due);
    }

    /** "and then, if the length is greater, multiplied by 2 for each bit more". */
    private void multipliedForEachBitMore() {
        boundary.about("Promise 17, codes: multiplied by 2 for each bit more");
        words("one bit more each", Boundary.planned("000000001111223", 5, 200, 0), "0 2 6 7");
        words("lengths 1 3 3 3 3", Boundary.planned("00001234", 5, 200, 0), "0 4 5 6 7");
        words("lengths 1 and eight times 4", Boundary.planned("0000000012345678", 5, 200, 0), "0 8 9 10 11 12 13 14 15");
        words("lengths 2 2 2 4 4 4 4", Boundary.planned("0000111122223456", 5, 200, 0), "0 1 2 12 13 14 15");
        words("the short word is the last symbol", Boundary.planned("01234444", 5, 200, 0), "4 5 6 7 0");
    }

    private void starts(String name, BlockCoder coder, String due) {
        boundary.same(name, Boundary.startsOf(coder), due);
    }

    /** "The plan that is made is the one with the least cost": one block h + 16, two 2h + 8. */
    private void leastCost() {
        boundary.about("Promise 12, plans: the least cost");
        starts("two are cheaper by one", Boundary.planned("00112233", 5, 7, 0), "0 4");
        starts("one is cheaper by one", Boundary.planned("00112233", 5, 9, 0), "0");
        boundary.same("cost of two", Boundary.planned("00112233", 5, 7, 0).cost(), 22);
        boundary.same("cost of one", Boundary.planned("00112233", 5, 9, 0).cost(), 25);
        starts("headers without a price, at most two symbols a block", Boundary.planned("0123", 5, 0, 0), "0 2");
        starts("the dearest header", Boundary.planned("00112233", 5, 200, 0), "0");
    }

    /** "of several, one with the fewest blocks". */
    private void fewestBlocks() {
        boundary.about("Promise 12, plans: the fewest blocks");
        starts("one and two cost the same", Boundary.planned("00112233", 5, 8, 0), "0");
        boundary.same("cost", Boundary.planned("00112233", 5, 8, 0).cost(), 24);
        starts("nothing costs anything but bits", Boundary.planned("0011", 5, 0, 0), "0");
        starts("80 places", Boundary.planned("01".repeat(40), 5, 0, 0), "0");
    }

    private static int costOfSplit(BlockCoder coder, int... sizes) {
        int cost = 0;
        int from = 0;
        for (int size : sizes) {
            cost += coder.costOf(from, from + size);
            from += size;
        }
        return cost;
    }

    /** A plan with a longer first block, but more blocks, is not the one. */
    private void fewestBeforeLongest() {
        boundary.about("Promise 12, plans: the fewest blocks before the longest one");
        BlockCoder coder = Boundary.planned("2310013", 3, 2, 2);
        boundary.same("1 and 6 places", costOfSplit(coder, 1, 6), 23);
        boundary.same("2, 4 and 1 places", costOfSplit(coder, 2, 4, 1), 23);
        boundary.same("cost", coder.cost(), 23);
        starts("two blocks", coder, "0 1");
    }

    /** "of several, the one whose first block is longest". */
    private void longestFirstBlock() {
        boundary.about("Promise 12, plans: the longest first block");
        BlockCoder coder = Boundary.planned("0221", 1, 4, 1);
        boundary.same("1 and 3 places", costOfSplit(coder, 1, 3), 15);
        boundary.same("3 and 1 places", costOfSplit(coder, 3, 1), 15);
        starts("of 1 and 3", coder, "0 3");
        BlockCoder other = Boundary.planned("33100", 2, 2, 1);
        boundary.same("2 and 3 places", costOfSplit(other, 2, 3), 12);
        boundary.same("3 and 2 places", costOfSplit(other, 3, 2), 12);
        starts("of 2 and 3", other, "0 3");
        BlockCoder equal = Boundary.withSettings("9".repeat(80), 5, 20, 4, 79);
        starts("of 1 to 79", equal, "0 79");
    }

    /** "then the one whose second block is longest, and so on". */
    private void longestSecondBlock() {
        boundary.about("Promise 12, plans: the longest second block, and so on");
        BlockCoder coder = Boundary.planned("133210", 1, 2, 1);
        boundary.same("3, 1 and 2 places", costOfSplit(coder, 3, 1, 2), 17);
        boundary.same("3, 2 and 1 places", costOfSplit(coder, 3, 2, 1), 17);
        starts("of 1 and 2", coder, "0 3 5");
        starts("of 7 places, at most 3 each", Boundary.withSettings("9999999", 5, 20, 4, 3), "0 3 6");
        starts("the third of four", Boundary.withSettings("9".repeat(10), 5, 20, 4, 3), "0 3 6 9");
    }

    /** "none of which is empty". */
    private void noBlockIsEmpty() {
        boundary.about("Promise 12, plans: no block is empty");
        for (int size : new int[] {1, 2, 3, 80}) {
            BlockCoder coder = Boundary.withSettings(Boundary.FULL.substring(0, size), 1, 0, 0, 1);
            boundary.same(size + " places, blocks of one", coder.plan(), size);
            boundary.same(size + " places, the last one", coder.start(size - 1), size - 1);
        }
        starts("one place, no prices", Boundary.planned("0", 1, 0, 0), "0");
    }

    /** "A text without symbols has a plan without blocks". */
    private void textWithoutSymbols() {
        boundary.about("Promise 12, plans: a text without symbols");
        Boundary.Scene empty = () -> Boundary.planned("");
        boundary.asks("a plan", empty, coder -> coder.hasPlan(), true);
        boundary.asks("without blocks", empty, coder -> coder.plan(), 0);
        boundary.asks("cost", empty, coder -> coder.cost(), 0);
        boundary.asks("no start", empty, coder -> coder.start(0), Boundary.BOUNDS);
        boundary.asks("no bits", empty, coder -> coder.write(), 0);
        boundary.asks("nothing to read", empty, coder -> coder.read(), 0);
        boundary.changes("one symbol more ends it", empty, coder -> coder.append(5, 1), 1, () -> Boundary.text("5"));
    }

    /** "There is always a plan, because a block with one place has a code". */
    private void thereIsAlwaysAPlan() {
        boundary.about("Promise 12, plans: there is always one");
        for (int limit = 1; limit <= 6; limit++) {
            for (int greatest : new int[] {1, 80}) {
                BlockCoder coder = Boundary.withSettings(Boundary.FULL, limit, 200, 20, greatest);
                int blocks = coder.plan();
                boundary.same("limit " + limit + ", greatest size " + greatest + ", some blocks", blocks >= 1 && blocks <= 80, true);
                boundary.same("limit " + limit + ", greatest size " + greatest, coder.hasPlan(), true);
            }
        }
        boundary.same("two symbols a block", Boundary.planned(Boundary.FULL, 1, 200, 20).plan(), 40);
        boundary.same("four symbols a block", Boundary.planned(Boundary.FULL, 2, 200, 20).plan(), 20);
        boundary.same("eight symbols a block", Boundary.planned(Boundary.FULL, 3, 200, 20).plan(), 10);
        boundary.same("all symbols in a block", Boundary.planned(Boundary.FULL, 4, 200, 20).plan(), 1);
    }

    private static Map<String, Boundary.Call> realChanges() {
        Map<String, Boundary.Call> calls = new LinkedHashMap<>();
        calls.put("append", coder -> coder.append(3, 1));
        calls.put("feed", coder -> coder.feed(0x3000000000000000L, 1));
        calls.put("set", coder -> coder.set(0, 3));
        calls.put("cut", coder -> coder.cut(1));
        calls.put("setLimit", coder -> coder.setLimit(6));
        calls.put("setPrices", coder -> coder.setPrices(0, 0));
        calls.put("setGreatest", coder -> coder.setGreatest(1));
        return calls;
    }

    private static Map<String, Boundary.Call> emptyChanges() {
        Map<String, Boundary.Call> calls = new LinkedHashMap<>();
        calls.put("set", coder -> coder.set(0, 2));
        calls.put("cut", coder -> coder.cut(0));
        calls.put("setLimit", coder -> coder.setLimit(5));
        calls.put("setPrices", coder -> coder.setPrices(20, 4));
        calls.put("setGreatest", coder -> coder.setGreatest(80));
        return calls;
    }

    private void ends(String name, Boundary.Call call) {
        for (Boundary.Scene scene : new Boundary.Scene[] {() -> Boundary.planned("2102"), Boundary::damaged}) {
            BlockCoder coder = scene.make();
            call.on(coder);
            boundary.same(name + " ends the plan", coder.hasPlan(), false);
            boundary.same(name + " ends the cost", Check.answerOf(coder::cost), Boundary.STATE);
            boundary.same(name + " ends the bits", coder.bitCount(), 0);
            boundary.same(name + " ends the first bit", Check.answerOf(() -> coder.bit(0)), Boundary.BOUNDS);
            boundary.same(name + " ends reading", Check.answerOf(coder::read), Boundary.STATE);
            coder.plan();
            boundary.same(name + ": a new plan", coder.hasPlan(), true);
            boundary.same(name + ": a new plan has no bits", coder.bitCount(), 0);
        }
        BlockCoder coder = Boundary.damaged();
        call.on(coder);
        boundary.same(name + " leaves what was read", Boundary.readingOf(coder, 4), "2212");
    }

    /** "A plan is kept until the next call of append, feed, set, cut, setLimit, setPrices or setGreatest". */
    private void planEndsWithAChange() {
        boundary.about("Promise 13, plans: kept until the next change");
        realChanges().forEach(this::ends);
    }

    /** ".. (also if it changes nothing)". */
    private void planEndsAlsoIfNothingChanges() {
        boundary.about("Promise 13, plans: kept until the next change that changes nothing");
        emptyChanges().forEach(this::ends);
        emptyChanges().forEach((name, call) -> boundary.same(name + " leaves the text and the settings",
            Shown.by(after(Boundary.damaged(), call)), Shown.by(after(Boundary.damaged(), coder -> coder.cut(0)))));
        BlockCoder empty = Boundary.planned("");
        boundary.same("cut nothing of nothing", empty.cut(0), 0);
        boundary.same("cut nothing of nothing ends the plan", empty.hasPlan(), false);
    }

    private static BlockCoder after(BlockCoder coder, Boundary.Call call) {
        call.on(coder);
        return coder;
    }

    /** ".. that throws no exception". */
    private void planOutlivesARefusedCall() {
        boundary.about("Promise 13, plans: kept by a refused call");
        Boundary.Scene scene = Boundary::damaged;
        boundary.refuses("append", scene, coder -> coder.append(16, 1), Boundary.ARGUMENT);
        boundary.refuses("append too much", scene, coder -> coder.append(0, 77), Boundary.STATE);
        boundary.refuses("feed", scene, coder -> coder.feed(0L, 17), Boundary.ARGUMENT);
        boundary.refuses("feed too much", () -> Boundary.written(Boundary.FULL), coder -> coder.feed(0L, 1), Boundary.STATE);
        boundary.refuses("set no place", scene, coder -> coder.set(4, 0), Boundary.BOUNDS);
        boundary.refuses("set no symbol", scene, coder -> coder.set(0, 16), Boundary.ARGUMENT);
        boundary.refuses("cut", scene, coder -> coder.cut(5), Boundary.ARGUMENT);
        boundary.refuses("setLimit", scene, coder -> coder.setLimit(7), Boundary.ARGUMENT);
        boundary.refuses("setPrices", scene, coder -> coder.setPrices(20, 21), Boundary.ARGUMENT);
        boundary.refuses("setGreatest", scene, coder -> coder.setGreatest(81), Boundary.ARGUMENT);
    }

    private void planOutlivesQuestions() {
        boundary.about("Promise 13, plans: kept by all other calls");
        Boundary.Scene scene = Boundary::damaged;
        boundary.asks("size", scene, coder -> coder.size(), 4);
        boundary.asks("count", scene, coder -> coder.count(0, 4, 2), 2);
        boundary.asks("costOf another block", scene, coder -> coder.costOf(1, 3), 30);
        boundary.asks("plan", scene, coder -> coder.plan(), 1);
        boundary.asks("hasPlan", scene, coder -> coder.hasPlan(), true);
        boundary.asks("start", scene, coder -> coder.start(0), 0);
        boundary.asks("length", scene, coder -> coder.length(0, 0), 2);
        boundary.asks("word", scene, coder -> coder.word(0, 0), 2);
        boundary.asks("slack", scene, coder -> coder.slack(0), 0);
        boundary.asks("look", scene, coder -> coder.look(0, 31), 33);
        boundary.asks("gain", scene, coder -> coder.gain(), 0);
        boundary.asks("bitCount", scene, coder -> coder.bitCount(), 6);
        boundary.asks("bit", scene, coder -> coder.bit(1), 0);
        boundary.asks("flip there and back", scene, coder -> coder.flip(0) + coder.flip(0), 1);
        boundary.asks("read", scene, coder -> coder.read(), 4);
        boundary.asks("got", scene, coder -> coder.got(1), 2);
        boundary.asks("differences", scene, coder -> coder.differences(), 2);
        boundary.asks("average", scene, coder -> coder.average(), 1.5);
    }

    /** "The bits that were written are kept until they are written again, or the plan is not kept any more". */
    private void bitsEndWithThePlan() {
        boundary.about("Promise 22, bits: kept until written again or the plan ends");
        BlockCoder coder = Boundary.damaged();
        boundary.same("damaged bits stay", Boundary.bitsOf(coder), "001100");
        coder.plan();
        coder.read();
        boundary.same("with plan and read, too", Boundary.bitsOf(coder), "001100");
        coder.write();
        boundary.same("written again", Boundary.bitsOf(coder), "011100");
        coder.cut(0);
        boundary.same("the plan ends", Boundary.bitsOf(coder), "");
        coder.plan();
        boundary.same("the same plan again has no bits", Boundary.bitsOf(coder), "");
    }

    /** "An object is used for at most 512 calls": the last of them is answered like the first. */
    private void the512thCall() {
        boundary.about("Promise 29, 512 calls");
        BlockCoder coder = new BlockCoder();
        StringBuilder symbols = new StringBuilder("0".repeat(80));
        coder.append(0, 80);
        int calls = 1;
        for (int i = 0; calls < MOST_CALLS - 3; i++) {
            int symbol = i * 7 % 16;
            coder.set(i % 80, symbol);
            coder.plan();
            symbols.setCharAt(i % 80, Character.forDigit(symbol, 16));
            calls += 2;
        }
        BlockCoder fresh = Boundary.planned(symbols.toString());
        int bits = fresh.write();
        boundary.same("call 510", coder.write(), bits);
        boundary.same("call 511", coder.read(), 80);
        boundary.same("call 512", coder.digest(), fresh.digest());
        boundary.same("calls", calls + 3, MOST_CALLS);
    }
}
