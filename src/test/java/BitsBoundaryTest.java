import java.math.BigInteger;
import java.util.ArrayList;
import java.util.List;

/** The boundary cases of promises 21 to 29: bits, readings, the average, the checksum. */
public final class BitsBoundaryTest {
    private static final int LEAST = Boundary.LEAST;
    private static final int MOST = Boundary.MOST;

    private final Boundary boundary = new Boundary();

    private BitsBoundaryTest() {
    }

    public static void main(String[] args) {
        BitsBoundaryTest test = new BitsBoundaryTest();
        test.writeWithoutAPlan();
        test.writeNothing();
        test.writeTheLeastAndTheMost();
        test.writeAgain();
        test.bitCountIfNoneAreWritten();
        test.bitNoSuchBit();
        test.flipNoSuchBit();
        test.flipTurnsOneBit();
        test.readWithoutAPlan();
        test.readNothing();
        test.readNoMoreBits();
        test.readNoWordWithinLBits();
        test.readBitsThatAreLeft();
        test.readFromBlockToBlock();
        test.readAgain();
        test.gotNoSuchSymbol();
        test.gotOutlivesThePlan();
        test.differencesOfPlacesInBoth();
        test.differencesOfPlacesInOne();
        test.averageWithoutAPlan();
        test.averageOfAnEmptyText();
        test.averageAtItsEnds();
        test.digestWithAndWithoutAPlan();
        test.digestWithAndWithoutBits();
        test.digestWrapsAround();
        test.boundary.finish("BitsBoundaryTest");
    }

    /** The bits 0 11 10 0 of 2102, with some of them turned. */
    private static BlockCoder turned(int... indices) {
        BlockCoder coder = Boundary.written("2102");
        for (int index : indices) {
            coder.flip(index);
        }
        return coder;
    }

    /** "IllegalStateException if there is no plan". */
    private void writeWithoutAPlan() {
        boundary.about("Promise 21, no plan");
        boundary.refusesWithoutPlan("write", coder -> coder.write());
        boundary.changes("a plan", () -> Boundary.planned("2102"), coder -> coder.write(), 6, () -> Boundary.written("2102"));
    }

    private void writeNothing() {
        boundary.about("Promise 21, an empty text");
        boundary.asks("no bits", () -> Boundary.planned(""), coder -> coder.write(), 0);
        boundary.asks("no bits again", () -> Boundary.written(""), coder -> coder.write(), 0);
    }

    private void writeTheLeastAndTheMost() {
        boundary.about("Promise 21, the least and the most bits");
        boundary.changes("one bit", () -> Boundary.planned("5"), coder -> coder.write(), 1, () -> Boundary.written("5"));
        boundary.same("the only bit", Boundary.bitsOf(Boundary.written("5")), "0");
        BlockCoder full = Boundary.planned(Boundary.FULL, 4, 200, 0);
        boundary.same("320 bits", full.write(), 320);
        StringBuilder due = new StringBuilder();
        for (int i = 0; i < 80; i++) {
            due.append(Integer.toBinaryString(16 + i % 16).substring(1));
        }
        boundary.same("the 320 bits", Boundary.bitsOf(full), due);
        BlockCoder deep = Boundary.planned(Boundary.DEEP, 6, 200, 0);
        boundary.same("78 bits", deep.write(), 78);
        boundary.same("the longest words, the highest bit first", Boundary.bitsOf(deep).substring(0, 22),
            "111110" + "111111" + "11110" + "11110");
    }

    /** "The bits that were written are kept until they are written again". */
    private void writeAgain() {
        boundary.about("Promise 21, written again");
        boundary.asks("the same bits", () -> Boundary.written("2102"), coder -> coder.write(), 6);
        boundary.changes("damaged bits", () -> turned(0, 5), coder -> coder.write(), 6, () -> Boundary.written("2102"));
        boundary.changes("damaged bits, what was read stays", Boundary::damaged, coder -> coder.write(), 6, () -> {
            BlockCoder coder = Boundary.damaged();
            coder.flip(1);
            return coder;
        });
    }

    /** "Returns the number of bits that are written; 0 if none are". */
    private void bitCountIfNoneAreWritten() {
        boundary.about("Promise 22, bitCount");
        Boundary.withoutPlan().forEach((name, scene) -> boundary.asks(name, scene, coder -> coder.bitCount(), 0));
        boundary.asks("a plan, but not written", () -> Boundary.planned("2102"), coder -> coder.bitCount(), 0);
        boundary.asks("an empty text, written", () -> Boundary.written(""), coder -> coder.bitCount(), 0);
        boundary.asks("one", () -> Boundary.written("5"), coder -> coder.bitCount(), 1);
        boundary.asks("six", () -> Boundary.written("2102"), coder -> coder.bitCount(), 6);
        boundary.asks("damaged", Boundary::damaged, coder -> coder.bitCount(), 6);
        boundary.asks("a new plan", () -> {
            BlockCoder coder = Boundary.damaged();
            coder.cut(0);
            coder.plan();
            return coder;
        }, coder -> coder.bitCount(), 0);
        boundary.asks("fewer than before", () -> {
            BlockCoder coder = Boundary.written("2102");
            coder.cut(3);
            coder.plan();
            coder.write();
            return coder;
        }, coder -> coder.bitCount(), 1);
    }

    /** "IndexOutOfBoundsException if there is no such bit". */
    private void bitNoSuchBit() {
        boundary.about("Promise 23, no such bit");
        for (int index : new int[] {-1, 480, LEAST, MOST}) {
            boundary.refusesEverywhere("bit(" + index + ")", coder -> coder.bit(index), Boundary.BOUNDS);
        }
        Boundary.withoutPlan().forEach((name, scene) ->
            boundary.refuses(name, scene, coder -> coder.bit(0), Boundary.BOUNDS));
        boundary.refuses("not written", () -> Boundary.planned("2102"), coder -> coder.bit(0), Boundary.BOUNDS);
        boundary.refuses("nothing to write", () -> Boundary.written(""), coder -> coder.bit(0), Boundary.BOUNDS);
        String due = "011100";
        for (int index = 0; index < 6; index++) {
            int at = index;
            boundary.asks("bit(" + index + ")", () -> Boundary.written("2102"), coder -> coder.bit(at), due.charAt(at) - '0');
        }
        boundary.refuses("behind the last", () -> Boundary.written("2102"), coder -> coder.bit(6), Boundary.BOUNDS);
        boundary.asks("the last of 320", BitsBoundaryTest::full, coder -> coder.bit(319), 1);
        boundary.refuses("behind 320", BitsBoundaryTest::full, coder -> coder.bit(320), Boundary.BOUNDS);
        boundary.refuses("one that was there before", BitsBoundaryTest::shorterThanBefore, coder -> coder.bit(1), Boundary.BOUNDS);
    }

    private static BlockCoder full() {
        BlockCoder coder = Boundary.planned(Boundary.FULL, 4, 200, 0);
        coder.write();
        return coder;
    }

    private static BlockCoder shorterThanBefore() {
        BlockCoder coder = full();
        coder.cut(79);
        coder.plan();
        coder.write();
        return coder;
    }

    private void flipNoSuchBit() {
        boundary.about("Promise 24, no such bit");
        for (int index : new int[] {-1, 480, LEAST, MOST}) {
            boundary.refusesEverywhere("flip(" + index + ")", coder -> coder.flip(index), Boundary.BOUNDS);
        }
        Boundary.withoutPlan().forEach((name, scene) ->
            boundary.refuses(name, scene, coder -> coder.flip(0), Boundary.BOUNDS));
        boundary.refuses("not written", () -> Boundary.planned("2102"), coder -> coder.flip(0), Boundary.BOUNDS);
        boundary.refuses("nothing to write", () -> Boundary.written(""), coder -> coder.flip(0), Boundary.BOUNDS);
        boundary.refuses("behind the last", Boundary::damaged, coder -> coder.flip(6), Boundary.BOUNDS);
        boundary.refuses("behind 320", BitsBoundaryTest::full, coder -> coder.flip(320), Boundary.BOUNDS);
        boundary.refuses("one that was there before", BitsBoundaryTest::shorterThanBefore, coder -> coder.flip(1), Boundary.BOUNDS);
    }

    /** "Turns a bit into the other one. Returns the bit before". */
    private void flipTurnsOneBit() {
        boundary.about("Promise 24, one bit is turned");
        String before = "011100";
        for (int index = 0; index < 6; index++) {
            char other = before.charAt(index) == '0' ? '1' : '0';
            BlockCoder coder = Boundary.written("2102");
            boundary.same("flip(" + index + ")", coder.flip(index), before.charAt(index));
            boundary.same("flip(" + index + "), the bits", Boundary.bitsOf(coder),
                before.substring(0, index) + other + before.substring(index + 1));
            boundary.same("flip(" + index + ") again", coder.flip(index), other);
            boundary.same("flip(" + index + ") again, all", Shown.by(coder), Shown.by(Boundary.written("2102")));
        }
        BlockCoder full = full();
        boundary.same("the last of 320", full.flip(319), 1);
        boundary.same("the last of 320, turned", full.bit(319), 0);
        boundary.same("the last but one stays", full.bit(318), 1);
    }

    private void readWithoutAPlan() {
        boundary.about("Promise 25, no plan");
        boundary.refusesWithoutPlan("read", coder -> coder.read());
        BlockCoder coder = Boundary.written("2102");
        boundary.same("a plan", coder.read(), 4);
        boundary.same("a plan, what was read", Boundary.readingOf(coder, 4), "2102");
    }

    /** No bits are there: "the reading fails if there are no more bits". */
    private void readNothing() {
        boundary.about("Promise 25, no bits");
        boundary.asks("a plan, but not written", () -> Boundary.planned("2102"), coder -> coder.read(), 0);
        boundary.asks("an empty text, not written", () -> Boundary.planned(""), coder -> coder.read(), 0);
        boundary.asks("an empty text, written", () -> Boundary.written(""), coder -> coder.read(), 0);
        BlockCoder coder = Boundary.damaged();
        coder.cut(0);
        coder.plan();
        boundary.same("a new plan, not written", coder.read(), 0);
        boundary.same("the reading before is gone", Check.answerOf(() -> coder.got(0)), Boundary.BOUNDS);
        boundary.same("all is different", coder.differences(), 4);
    }

    /** "The reading fails if there are no more bits .. what was read up to there is kept". */
    private void readNoMoreBits() {
        boundary.about("Promise 25, no more bits");
        reads("011100, nothing missing", turned(), 4, "2102");
        reads("111100, other words, nothing missing", turned(0), 4, "1122");
        reads("011101, one bit of two", turned(5), 3, "210");
        reads("111101, one bit of two", turned(0, 5), 3, "112");
        reads("111110, no bit left", turned(0, 4), 3, "110");
        reads("111111, no bit left", turned(0, 4, 5), 3, "111");
        reads("one place, its only bit is no word", lone(1, 5, 0), 0, "");
        reads("the last of 80, one bit is no word", lone(80, 5, 79), 79, "5".repeat(79));
    }

    /** A block of 5s, whose only word is 0, with one bit turned. */
    private static BlockCoder lone(int places, int limit, int index) {
        BlockCoder coder = Boundary.planned("5".repeat(places), limit, 20, 4);
        coder.write();
        coder.flip(index);
        return coder;
    }

    private void reads(String name, BlockCoder coder, int total, String symbols) {
        boundary.same(name, coder.read(), total);
        boundary.same(name + ", what was read", Boundary.readingOf(coder, total), symbols);
        boundary.same(name + ", no more", Check.answerOf(() -> coder.got(total)), Boundary.BOUNDS);
    }

    /** ".. or if L bits were taken and no word was found". */
    private void readNoWordWithinLBits() {
        boundary.about("Promise 25, L bits and no word");
        for (int limit = 1; limit <= 6; limit++) {
            reads("the first of 20, limit " + limit, lone(20, limit, 0), 0, "");
            for (int left = limit - 1; left <= limit + 1; left++) {
                if (left > 0) {
                    reads(left + " bits are left, limit " + limit, lone(20, limit, 20 - left), 20 - left, "5".repeat(20 - left));
                }
            }
        }
        BlockCoder coder = Boundary.withSettings("55550101", 3, 20, 4, 4);
        coder.plan();
        coder.write();
        coder.flip(3);
        reads("the next block is not read", coder, 3, "555");
    }

    /** "for each block, as many symbols are read as it has places": bits that are left stay unread. */
    private void readBitsThatAreLeft() {
        boundary.about("Promise 25, bits that are left");
        reads("001100, one bit left", turned(1), 4, "2212");
        reads("001000, one bit left", turned(1, 3), 4, "2202");
        reads("000100, one bit left", turned(1, 2), 4, "2220");
        reads("000000, two bits left", turned(1, 2, 3), 4, "2222");
        reads("all as written", Boundary.twoBlocks(), 16, "0000111122223333");
    }

    /** Blocks 2102 and 5666, written 0 11 10 0 and 0 1 1 1: the second begins where the first ends. */
    private void readFromBlockToBlock() {
        boundary.about("Promise 25, from block to block");
        reads("not damaged", twoUneven(), 8, "21025666");
        reads("the first block as long as before", twoUneven(0), 8, "11225666");
        reads("the first block one bit shorter", twoUneven(1), 8, "22125566");
        reads("the first block one bit longer", twoUneven(0, 4), 7, "1102666");
        reads("damage in the second block only", twoUneven(6), 8, "21026666");
        reads("two blocks, damage at their border", afterFlips(Boundary.twoBlocks(), 7, 8), 16, "0000111032223333");
    }

    private static BlockCoder twoUneven(int... indices) {
        BlockCoder coder = Boundary.withSettings("21025666", 5, 20, 4, 4);
        coder.plan();
        coder.write();
        return afterFlips(coder, indices);
    }

    private static BlockCoder afterFlips(BlockCoder coder, int... indices) {
        for (int index : indices) {
            coder.flip(index);
        }
        return coder;
    }

    /** "Reads the bits that are written, as they are now". */
    private void readAgain() {
        boundary.about("Promise 25, as they are now");
        BlockCoder coder = turned();
        reads("as written", coder, 4, "2102");
        reads("once more", coder, 4, "2102");
        coder.flip(5);
        boundary.same("turning a bit reads nothing", Boundary.readingOf(coder, 4), "2102");
        reads("damaged: fewer than before", coder, 3, "210");
        coder.write();
        boundary.same("writing reads nothing", Check.answerOf(() -> coder.got(3)), Boundary.BOUNDS);
        reads("written again", coder, 4, "2102");
    }

    /** "IndexOutOfBoundsException if there is no such symbol". */
    private void gotNoSuchSymbol() {
        boundary.about("Promise 26, no such symbol");
        for (int index : new int[] {-1, 80, LEAST, MOST}) {
            boundary.refusesEverywhere("got(" + index + ")", coder -> coder.got(index), Boundary.BOUNDS);
        }
        for (String name : List.of("new", "a text without a plan", "a full text without a plan")) {
            boundary.refuses(name, Boundary.withoutPlan().get(name), coder -> coder.got(0), Boundary.BOUNDS);
        }
        for (String name : List.of("an empty plan", "a plan", "a plan and bits")) {
            boundary.refuses(name, Boundary.withPlan().get(name), coder -> coder.got(0), Boundary.BOUNDS);
        }
        boundary.asks("the first", Boundary::damaged, coder -> coder.got(0), 2);
        boundary.asks("the last", Boundary::damaged, coder -> coder.got(3), 2);
        boundary.refuses("behind the last", Boundary::damaged, coder -> coder.got(4), Boundary.BOUNDS);
        boundary.asks("the last of 80", Boundary.withPlan().get("full of all"), coder -> coder.got(79), 15);
        Boundary.Scene three = () -> {
            BlockCoder coder = turned(5);
            coder.read();
            return coder;
        };
        boundary.asks("the last before the failure", three, coder -> coder.got(2), 0);
        boundary.refuses("where the reading failed", three, coder -> coder.got(3), Boundary.BOUNDS);
        boundary.refuses("the reading failed at once", () -> {
            BlockCoder coder = lone(4, 5, 0);
            coder.read();
            return coder;
        }, coder -> coder.got(0), Boundary.BOUNDS);
        boundary.refuses("a longer reading before", () -> {
            BlockCoder coder = Boundary.damaged();
            coder.cut(3);
            coder.plan();
            coder.write();
            coder.read();
            return coder;
        }, coder -> coder.got(1), Boundary.BOUNDS);
    }

    /** The latest reading stays until the next: only the plan and the bits end with a change. */
    private void gotOutlivesThePlan() {
        boundary.about("Promise 26, the latest reading");
        Boundary.Scene changed = Boundary.withoutPlan().get("a text that was changed after a reading");
        boundary.asks("the text was changed", changed, coder -> coder.got(3), 2);
        Boundary.Scene emptied = Boundary.withoutPlan().get("a text that was emptied after a reading");
        boundary.asks("the text is empty", emptied, coder -> coder.got(3), 2);
        boundary.asks("a refused reading is none", () -> {
            BlockCoder coder = changed.make();
            Check.answerOf(coder::read);
            return coder;
        }, coder -> coder.got(1), 2);
    }

    /** "at how many places the text and what the latest reading has read are different". */
    private void differencesOfPlacesInBoth() {
        boundary.about("Promise 27, places of both");
        boundary.asks("none", () -> {
            BlockCoder coder = turned();
            coder.read();
            return coder;
        }, coder -> coder.differences(), 0);
        boundary.asks("two", Boundary::damaged, coder -> coder.differences(), 2);
        boundary.asks("the text was made the same", () -> {
            BlockCoder coder = Boundary.damaged();
            coder.set(1, 2);
            coder.set(2, 1);
            return coder;
        }, coder -> coder.differences(), 0);
        boundary.asks("all", () -> {
            BlockCoder coder = Boundary.damaged();
            coder.set(0, 9);
            coder.set(3, 9);
            return coder;
        }, coder -> coder.differences(), 4);
        boundary.asks("the last of 80", () -> {
            BlockCoder coder = full();
            coder.flip(319);
            coder.read();
            return coder;
        }, coder -> coder.differences(), 1);
        boundary.asks("turned after the reading", () -> {
            BlockCoder coder = turned();
            coder.read();
            coder.flip(0);
            return coder;
        }, coder -> coder.differences(), 0);
    }

    /** "places at which only one of them has a symbol are counted, too". */
    private void differencesOfPlacesInOne() {
        boundary.about("Promise 27, places of one");
        boundary.asks("neither has any", BlockCoder::new, coder -> coder.differences(), 0);
        for (int size : new int[] {1, 79, 80}) {
            boundary.asks("nothing was read of " + size, () -> Boundary.text(Boundary.FULL.substring(0, size)),
                coder -> coder.differences(), size);
        }
        boundary.asks("the text is longer by one", () -> afterChange(coder -> coder.append(0, 1)), coder -> coder.differences(), 3);
        boundary.asks("the text is as long", () -> afterChange(coder -> coder.cut(0)), coder -> coder.differences(), 2);
        boundary.asks("the text is shorter by one", () -> afterChange(coder -> coder.cut(1)), coder -> coder.differences(), 3);
        boundary.asks("the text has one", () -> afterChange(coder -> coder.cut(3)), coder -> coder.differences(), 3);
        boundary.asks("the text is empty", () -> afterChange(coder -> coder.cut(4)), coder -> coder.differences(), 4);
        boundary.asks("the text is full", () -> afterChange(coder -> coder.append(0, 76)), coder -> coder.differences(), 78);
        boundary.asks("the reading failed at the last", () -> {
            BlockCoder coder = turned(5);
            coder.read();
            return coder;
        }, coder -> coder.differences(), 1);
        boundary.asks("the reading failed at the first", () -> {
            BlockCoder coder = lone(4, 5, 0);
            coder.read();
            return coder;
        }, coder -> coder.differences(), 4);
        boundary.asks("80 were read, the text is empty", () -> {
            BlockCoder coder = full();
            coder.read();
            coder.cut(80);
            return coder;
        }, coder -> coder.differences(), 80);
    }

    private static BlockCoder afterChange(Boundary.Call change) {
        BlockCoder coder = Boundary.damaged();
        change.on(coder);
        return coder;
    }

    /** "IllegalStateException if there is no plan", also if the text is empty. */
    private void averageWithoutAPlan() {
        boundary.about("Promise 28, no plan");
        boundary.refusesWithoutPlan("average", coder -> coder.average());
        boundary.asks("a plan", () -> Boundary.planned("2102"), coder -> coder.average(), 1.5);
    }

    /** "0 if the text is empty". */
    private void averageOfAnEmptyText() {
        boundary.about("Promise 28, the text is empty");
        boundary.asks("a plan without blocks", () -> Boundary.planned(""), coder -> coder.average(), 0.0);
        boundary.asks("emptied", () -> {
            BlockCoder coder = Boundary.damaged();
            coder.cut(4);
            coder.plan();
            return coder;
        }, coder -> coder.average(), 0.0);
        boundary.asks("one symbol", () -> Boundary.planned("5"), coder -> coder.average(), 1.0);
    }

    /** "the number of bits of the plan (without headers)", written or not, damaged or not. */
    private void averageAtItsEnds() {
        boundary.about("Promise 28, the average");
        boundary.asks("the least", () -> Boundary.planned("5".repeat(80)), coder -> coder.average(), 1.0);
        boundary.asks("the greatest", BitsBoundaryTest::full, coder -> coder.average(), 4.0);
        boundary.asks("a third", () -> Boundary.planned("012", 5, 200, 20), coder -> coder.average(), 5.0 / 3);
        boundary.asks("two blocks", Boundary::twoBlocks, coder -> coder.average(), 1.0);
        boundary.asks("deep", () -> Boundary.planned(Boundary.DEEP, 6, 200, 0), coder -> coder.average(), 78.0 / 33);
        boundary.asks("written", () -> Boundary.written("2102"), coder -> coder.average(), 1.5);
        boundary.asks("damaged", Boundary::damaged, coder -> coder.average(), 1.5);
    }

    private static long digestOf(List<Integer> numbers) {
        BigInteger d = BigInteger.valueOf(101);
        for (int x : numbers) {
            d = d.multiply(BigInteger.valueOf(31)).add(BigInteger.valueOf(x));
        }
        return d.longValue();
    }

    private static List<Integer> numbers(int... row) {
        List<Integer> numbers = new ArrayList<>();
        for (int x : row) {
            numbers.add(x);
        }
        return numbers;
    }

    /** "if there is a plan, its cost, the number of its blocks, and for each block ..". */
    private void digestWithAndWithoutAPlan() {
        boundary.about("Promise 29, a plan or none");
        boundary.asks("new", BlockCoder::new, coder -> coder.digest(), digestOf(numbers(5, 20, 4, 80, 0, 0)));
        boundary.asks("a plan without blocks", () -> Boundary.planned(""), coder -> coder.digest(),
            digestOf(numbers(5, 20, 4, 80, 0, 0, 0, 0)));
        boundary.asks("no plan", () -> Boundary.text("5"), coder -> coder.digest(),
            digestOf(numbers(5, 20, 4, 80, 1, 5, 0)));
        boundary.asks("one block", () -> Boundary.planned("5"), coder -> coder.digest(),
            digestOf(numbers(5, 20, 4, 80, 1, 5, 25, 1, 0, 0, 0, 0, 0, 0, 1, 0, 0, 0, 0, 0, 0, 0, 0, 0, 0, 0)));
        boundary.asks("the plan is dropped", () -> {
            BlockCoder coder = Boundary.written("5");
            coder.cut(0);
            return coder;
        }, coder -> coder.digest(), digestOf(numbers(5, 20, 4, 80, 1, 5, 0)));
        boundary.asks("80 blocks", () -> {
            BlockCoder coder = Boundary.withSettings(Boundary.FULL, 1, 200, 20, 1);
            coder.plan();
            return coder;
        }, coder -> coder.digest(), digestOf(numbersOf80Blocks()));
    }

    private static List<Integer> numbersOf80Blocks() {
        List<Integer> numbers = numbers(1, 200, 20, 1, 80);
        for (int place = 0; place < 80; place++) {
            numbers.add(place % 16);
        }
        numbers.add(80 * 221);
        numbers.add(80);
        for (int block = 0; block < 80; block++) {
            numbers.add(block);
            for (int symbol = 0; symbol < 16; symbol++) {
                numbers.add(symbol == block % 16 ? 1 : 0);
            }
        }
        numbers.add(0);
        return numbers;
    }

    /** "the number of bits that are written, and these". */
    private void digestWithAndWithoutBits() {
        boundary.about("Promise 29, bits or none");
        int[] planned = {5, 20, 4, 80, 1, 5, 25, 1, 0, 0, 0, 0, 0, 0, 1, 0, 0, 0, 0, 0, 0, 0, 0, 0, 0};
        List<Integer> none = numbers(planned);
        none.add(0);
        List<Integer> one = numbers(planned);
        one.addAll(List.of(1, 0));
        List<Integer> turned = numbers(planned);
        turned.addAll(List.of(1, 1));
        boundary.asks("none", () -> Boundary.planned("5"), coder -> coder.digest(), digestOf(none));
        boundary.asks("one", () -> Boundary.written("5"), coder -> coder.digest(), digestOf(one));
        boundary.asks("one that was turned", () -> lone(1, 5, 0), coder -> coder.digest(), digestOf(turned));
        boundary.asks("what was read does not count", () -> {
            BlockCoder coder = Boundary.written("5");
            coder.read();
            return coder;
        }, coder -> coder.digest(), digestOf(one));
    }

    /** "which wraps around as a 64-bit integer": twelve numbers are the first that are too many. */
    private void digestWrapsAround() {
        boundary.about("Promise 29, wraps around");
        BigInteger most = BigInteger.valueOf(Long.MAX_VALUE);
        boolean over = false;
        boolean under = false;
        for (int size = 0; size <= 80; size++) {
            String symbols = "f".repeat(size);
            List<Integer> numbers = numbers(5, 20, 4, 80, size);
            BigInteger plain = BigInteger.valueOf(101);
            for (int i = 0; i < size; i++) {
                numbers.add(15);
            }
            numbers.add(0);
            for (int x : numbers) {
                plain = plain.multiply(BigInteger.valueOf(31)).add(BigInteger.valueOf(x));
            }
            over |= plain.compareTo(most) > 0;
            under |= plain.compareTo(most) <= 0;
            boundary.asks(size + " symbols", () -> Boundary.text(symbols), coder -> coder.digest(), plain.longValue());
        }
        boundary.same("both sides of the boundary", over && under, true);
    }
}
