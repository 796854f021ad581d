import java.util.Arrays;
import java.util.NoSuchElementException;

/** A coder for short texts with prefix codes of limited length; DOC.md says what it promises. */
public final class BlockCoder {
    private static final int SYMBOLS = 16;
    private static final int MOST_PLACES = 80;
    private static final int MOST_LIMIT = 6;
    private static final int MOST_HEADER_PRICE = 200;
    private static final int MOST_SYMBOL_PRICE = 20;
    private static final int MOST_FED = 16;
    private static final int BITS_OF_A_FED_SYMBOL = 4;
    private static final int NONE = -1;
    /** More than any cost, and far from what an int can hold. */
    private static final int TOO_MUCH = 1000000;

    private final Text text = new Text();
    private final Settings settings = new Settings();
    private final Tally tally = new Tally();
    private final PackageMerge merge = new PackageMerge();
    private final Splitter splitter = new Splitter();
    private final CodeFinder finder = new CodeFinder();
    private final Plan plan = new Plan();
    private boolean planned = false;
    private final Bits written = new Bits();
    private final int[] reading = new int[MOST_PLACES];
    private int readTotal = 0;

    public BlockCoder() {
    }

    public int append(int symbol, int many) throws IllegalArgumentException, IllegalStateException {
        if (!isSymbol(symbol) || many < 1 || many > MOST_PLACES) {
            throw new IllegalArgumentException("a symbol is 0 to 15, many 1 to 80");
        }
        requireRoom(many);
        for (int i = 0; i < many; i++) {
            text.push(symbol);
        }
        dropPlan();
        return text.size;
    }

    public int feed(long symbols, int many) throws IllegalArgumentException, IllegalStateException {
        if (many < 1 || many > MOST_FED) {
            throw new IllegalArgumentException("many is 1 to 16");
        }
        requireRoom(many);
        for (int i = 0; i < many; i++) {
            int shift = (MOST_FED - 1 - i) * BITS_OF_A_FED_SYMBOL;
            text.push((int) (symbols >>> shift) & (SYMBOLS - 1));
        }
        dropPlan();
        return text.size;
    }

    public int set(int place, int symbol) throws IndexOutOfBoundsException, IllegalArgumentException {
        if (place < 0 || place >= text.size) {
            throw new IndexOutOfBoundsException("there is no such place");
        }
        if (!isSymbol(symbol)) {
            throw new IllegalArgumentException("a symbol is 0 to 15");
        }
        int before = text.symbols[place];
        text.symbols[place] = symbol;
        dropPlan();
        return before;
    }

    public int cut(int many) throws IllegalArgumentException {
        if (many < 0 || many > text.size) {
            throw new IllegalArgumentException("many is 0 to the size");
        }
        text.size -= many;
        dropPlan();
        return text.size;
    }

    public int size() {
        return text.size;
    }

    public int count(int from, int to, int symbol) throws IndexOutOfBoundsException {
        if (from < 0 || to > text.size || from > to || !isSymbol(symbol)) {
            throw new IndexOutOfBoundsException("there are no such places, or no such symbol");
        }
        int found = 0;
        for (int place = from; place < to; place++) {
            if (text.symbols[place] == symbol) {
                found++;
            }
        }
        return found;
    }

    public int setLimit(int limit) throws IllegalArgumentException {
        if (limit < 1 || limit > MOST_LIMIT) {
            throw new IllegalArgumentException("a limit is 1 to 6");
        }
        int before = settings.limit;
        settings.limit = limit;
        dropPlan();
        return before;
    }

    public boolean setPrices(int header, int symbol) throws IllegalArgumentException {
        if (header < 0 || header > MOST_HEADER_PRICE || symbol < 0 || symbol > MOST_SYMBOL_PRICE) {
            throw new IllegalArgumentException("a header's price is 0 to 200, a symbol's 0 to 20");
        }
        boolean other = header != settings.headerPrice || symbol != settings.symbolPrice;
        settings.headerPrice = header;
        settings.symbolPrice = symbol;
        dropPlan();
        return other;
    }

    public int setGreatest(int size) throws IllegalArgumentException {
        if (size < 1 || size > MOST_PLACES) {
            throw new IllegalArgumentException("a greatest size is 1 to 80");
        }
        int before = settings.greatest;
        settings.greatest = size;
        dropPlan();
        return before;
    }

    public int costOf(int from, int to) throws IndexOutOfBoundsException {
        if (from < 0 || to > text.size || from >= to) {
            throw new IndexOutOfBoundsException("there is no such block");
        }
        return costOfBlock(from, to);
    }

    public int plan() {
        if (!planned) {
            splitter.split(text, settings);
            plan.follow(splitter, text);
            for (int block = 0; block < plan.blocks; block++) {
                tally.take(text, plan.starts[block], plan.ends[block]);
                finder.find(tally, settings.limit);
                plan.keepCode(block, finder.lengths, settings.limit);
            }
            planned = true;
        }
        return plan.blocks;
    }

    public boolean hasPlan() {
        return planned;
    }

    public int cost() throws IllegalStateException {
        requirePlan();
        return plan.cost;
    }

    public int start(int block) throws IllegalStateException, IndexOutOfBoundsException {
        requirePlan();
        requireBlock(block);
        return plan.starts[block];
    }

    public int length(int block, int symbol) throws IllegalStateException, IndexOutOfBoundsException {
        requirePlan();
        requireBlock(block);
        requireSymbol(symbol);
        return plan.lengths[Plan.cellOf(block, symbol)];
    }

    public int word(int block, int symbol) throws IllegalStateException, IndexOutOfBoundsException {
        requirePlan();
        requireBlock(block);
        requireSymbol(symbol);
        return plan.words[Plan.cellOf(block, symbol)];
    }

    public int slack(int block) throws IllegalStateException, IndexOutOfBoundsException {
        requirePlan();
        requireBlock(block);
        int left = 1 << settings.limit;
        for (int symbol = 0; symbol < SYMBOLS; symbol++) {
            int length = plan.lengths[Plan.cellOf(block, symbol)];
            if (length > 0) {
                left -= 1 << (settings.limit - length);
            }
        }
        return left;
    }

    public int look(int block, int bits)
            throws IllegalStateException, IndexOutOfBoundsException, IllegalArgumentException {
        requirePlan();
        requireBlock(block);
        int limit = settings.limit;
        if (bits < 0 || bits >= 1 << limit) {
            throw new IllegalArgumentException("the bits are not 0 to 2^L - 1");
        }
        for (int length = 1; length <= limit; length++) {
            int symbol = plan.symbolWith(block, length, bits >> (limit - length));
            if (symbol != NONE) {
                return SYMBOLS * length + symbol;
            }
        }
        return NONE;
    }

    public int gain() throws IllegalStateException, NoSuchElementException {
        requirePlan();
        if (text.size == 0) {
            throw new NoSuchElementException("the text is empty");
        }
        int whole = costOfBlock(0, text.size);
        return whole == NONE ? NONE : whole - plan.cost;
    }

    public int write() throws IllegalStateException {
        requirePlan();
        written.total = 0;
        for (int place = 0; place < text.size; place++) {
            int cell = Plan.cellOf(plan.blockOf[place], text.symbols[place]);
            written.push(plan.words[cell], plan.lengths[cell]);
        }
        return written.total;
    }

    public int bitCount() {
        return written.total;
    }

    public int bit(int index) throws IndexOutOfBoundsException {
        requireBit(index);
        return written.row[index];
    }

    public int flip(int index) throws IndexOutOfBoundsException {
        requireBit(index);
        int before = written.row[index];
        written.row[index] = 1 - before;
        return before;
    }

    public int read() throws IllegalStateException {
        requirePlan();
        readTotal = 0;
        int next = 0;
        for (int place = 0; place < text.size; place++) {
            int block = plan.blockOf[place];
            int symbol = symbolAt(next, block);
            if (symbol == NONE) {
                break;
            }
            reading[place] = symbol;
            readTotal = place + 1;
            next += plan.lengths[Plan.cellOf(block, symbol)];
        }
        return readTotal;
    }

    public int got(int index) throws IndexOutOfBoundsException {
        if (index < 0 || index >= readTotal) {
            throw new IndexOutOfBoundsException("no such symbol was read");
        }
        return reading[index];
    }

    public int differences() {
        int both = Math.min(text.size, readTotal);
        int different = Math.max(text.size, readTotal) - both;
        for (int place = 0; place < both; place++) {
            if (text.symbols[place] != reading[place]) {
                different++;
            }
        }
        return different;
    }

    public double average() throws IllegalStateException {
        requirePlan();
        if (text.size == 0) {
            return 0;
        }
        int sum = 0;
        for (int place = 0; place < text.size; place++) {
            sum += plan.lengths[Plan.cellOf(plan.blockOf[place], text.symbols[place])];
        }
        return (double) sum / text.size;
    }

    public long digest() {
        long d = 101;
        d = d * 31 + settings.limit;
        d = d * 31 + settings.headerPrice;
        d = d * 31 + settings.symbolPrice;
        d = d * 31 + settings.greatest;
        d = d * 31 + text.size;
        d = mixed(d, text.symbols, 0, text.size);
        if (planned) {
            d = d * 31 + plan.cost;
            d = d * 31 + plan.blocks;
            for (int block = 0; block < plan.blocks; block++) {
                d = d * 31 + plan.starts[block];
                d = mixed(d, plan.lengths, block * SYMBOLS, (block + 1) * SYMBOLS);
            }
        }
        d = d * 31 + written.total;
        return mixed(d, written.row, 0, written.total);
    }

    private static long mixed(long sum, int[] row, int from, int to) {
        long d = sum;
        for (int i = from; i >= 0 && i < to && i < row.length; i++) {
            d = d * 31 + row[i];
        }
        return d;
    }

    private static boolean isSymbol(int symbol) {
        return symbol >= 0 && symbol < SYMBOLS;
    }

    private void requireRoom(int many) {
        if (many > MOST_PLACES - text.size) {
            throw new IllegalStateException("the text would have more than 80 symbols");
        }
    }

    private void requirePlan() {
        if (!planned) {
            throw new IllegalStateException("there is no plan");
        }
    }

    private void requireBlock(int block) {
        if (block < 0 || block >= plan.blocks) {
            throw new IndexOutOfBoundsException("there is no such block");
        }
    }

    private void requireSymbol(int symbol) {
        if (!isSymbol(symbol)) {
            throw new IndexOutOfBoundsException("a symbol is 0 to 15");
        }
    }

    private void requireBit(int index) {
        if (index < 0 || index >= written.total) {
            throw new IndexOutOfBoundsException("there is no such bit");
        }
    }

    /** What was read stays: the document ends only the plan and the bits here. */
    private void dropPlan() {
        planned = false;
        written.total = 0;
    }

    private int costOfBlock(int from, int to) {
        tally.take(text, from, to);
        int sum = merge.leastSum(tally, settings.limit);
        return sum == NONE ? NONE : settings.priceOf(tally.kinds, sum);
    }

    /** The symbol whose word begins at a bit; NONE if the bits end first or are no word. */
    private int symbolAt(int first, int block) {
        int value = 0;
        for (int taken = 1; taken <= settings.limit && first + taken <= written.total; taken++) {
            value = value * 2 + written.row[first + taken - 1];
            int symbol = plan.symbolWith(block, taken, value);
            if (symbol != NONE) {
                return symbol;
            }
        }
        return NONE;
    }

    private static final class Text {
        final int[] symbols = new int[MOST_PLACES];
        int size = 0;

        void push(int symbol) {
            if (size < MOST_PLACES) {
                symbols[size] = symbol;
                size++;
            }
        }
    }

    private static final class Settings {
        int limit = 5;
        int headerPrice = 20;
        int symbolPrice = 4;
        int greatest = MOST_PLACES;

        int priceOf(int kinds, int sumOfLengths) {
            return headerPrice + symbolPrice * kinds + sumOfLengths;
        }
    }

    private static final class Bits {
        final int[] row = new int[MOST_PLACES * MOST_LIMIT];
        int total = 0;

        void push(int word, int length) {
            for (int shift = length - 1; shift >= 0 && total < MOST_PLACES * MOST_LIMIT; shift--) {
                row[total] = (word >> shift) & 1;
                total++;
            }
        }
    }

    /** How often each symbol occurs in a block, and the counts of those that occur in falling order. */
    private static final class Tally {
        final int[] counts = new int[SYMBOLS];
        final int[] falling = new int[SYMBOLS];
        int kinds = 0;

        void clear() {
            Arrays.fill(counts, 0);
            kinds = 0;
        }

        void take(Text text, int from, int to) {
            clear();
            for (int place = Math.max(from, 0); place < to && place < text.size; place++) {
                add(text.symbols[place]);
            }
        }

        void add(int symbol) {
            if (!isSymbol(symbol)) {
                return;
            }
            int before = counts[symbol];
            counts[symbol] = before + 1;
            if (before == 0 && kinds < SYMBOLS) {
                falling[kinds] = 1;
                kinds++;
                return;
            }
            for (int i = 0; i < kinds; i++) {
                // Of equal counts the first one grows: so the order stays falling without a sort.
                if (falling[i] == before) {
                    falling[i] = before + 1;
                    return;
                }
            }
        }
    }

    /**
     * Finds the least sum of lengths, but no code: a plan needs the sum for thousands of blocks,
     * and package-merge gets it in far fewer steps than the CodeFinder.
     */
    private static final class PackageMerge {
        private int[] row = new int[2 * SYMBOLS];
        private int[] nextRow = new int[2 * SYMBOLS];
        private int filled = 0;

        int leastSum(Tally tally, int limit) {
            if (tally.kinds > 1 << limit) {
                return NONE;
            }
            if (tally.kinds == 1) {
                return tally.falling[0];
            }
            filled = 0;
            for (int round = 0; round < limit; round++) {
                mergePairs(tally);
            }
            int sum = 0;
            for (int i = 0; i < filled; i++) {
                sum += row[i];
            }
            return sum;
        }

        /** Merges the counts, ascending, with the sums of the pairs of the row before. */
        private void mergePairs(Tally tally) {
            int most = 2 * tally.kinds - 2;
            int leaf = tally.kinds - 1;
            int pair = 0;
            int made = 0;
            while (made < most && (leaf >= 0 || pair + 1 < filled)) {
                if (leaf >= 0 && (pair + 1 >= filled || tally.falling[leaf] <= row[pair] + row[pair + 1])) {
                    nextRow[made] = tally.falling[leaf];
                    leaf--;
                } else {
                    nextRow[made] = row[pair] + row[pair + 1];
                    pair += 2;
                }
                made++;
            }
            int[] old = row;
            row = nextRow;
            nextRow = old;
            filled = made;
        }
    }

    /**
     * Finds the code of a block. Row r, room m of the table is the least sum of lengths for the
     * last r symbols that occur, if their words may use m of the 2^L places of a tree.
     */
    private static final class CodeFinder {
        private static final int ROW = (1 << MOST_LIMIT) + 1;

        final int[] lengths = new int[SYMBOLS];
        /** Row 0 is never written: no symbols cost nothing. */
        private final int[] least = new int[(SYMBOLS + 1) * ROW];

        void find(Tally tally, int limit) {
            int rows = 0;
            for (int symbol = SYMBOLS - 1; symbol >= 0; symbol--) {
                if (tally.counts[symbol] > 0) {
                    rows++;
                    fillRow(rows, tally.counts[symbol], limit);
                }
            }
            chooseLengths(tally, rows, limit);
        }

        private void fillRow(int row, int count, int limit) {
            for (int room = 0; room <= 1 << limit; room++) {
                int best = TOO_MUCH;
                for (int length = 1; length <= limit; length++) {
                    best = Math.min(best, sumWith(row, count, length, room - (1 << (limit - length))));
                }
                least[row * ROW + room] = best;
            }
        }

        private int sumWith(int row, int count, int length, int roomLeft) {
            return roomLeft < 0 ? TOO_MUCH : count * length + least[(row - 1) * ROW + roomLeft];
        }

        /** The smallest symbol chooses first, and each the shortest length of any best code. */
        private void chooseLengths(Tally tally, int rows, int limit) {
            int row = rows;
            int room = 1 << limit;
            for (int symbol = 0; symbol < SYMBOLS; symbol++) {
                lengths[symbol] = 0;
                if (tally.counts[symbol] > 0 && row > 0 && room > 0) {
                    int length = shortestLength(row, tally.counts[symbol], room, limit);
                    lengths[symbol] = length;
                    room -= 1 << (limit - length);
                    row--;
                }
            }
        }

        private int shortestLength(int row, int count, int room, int limit) {
            for (int length = 1; length < limit; length++) {
                int roomLeft = room - (1 << (limit - length));
                if (sumWith(row, count, length, roomLeft) == least[row * ROW + room]) {
                    return length;
                }
            }
            return limit;
        }
    }

    /**
     * The sums of lengths and the numbers of symbols of all blocks of a text. It remembers for
     * which text and limit they hold, so that a new plan works out only what has changed.
     */
    private static final class BlockTable {
        private static final int BLOCKS = MOST_PLACES * (MOST_PLACES + 1) / 2;

        private final Tally tally = new Tally();
        private final PackageMerge merge = new PackageMerge();
        private final int[] sums = new int[BLOCKS];
        private final int[] kinds = new int[BLOCKS];
        private final int[] known = new int[MOST_PLACES];
        private int knownSize = 0;
        private int knownLimit = 0;

        void learn(Text text, int limit) {
            int same = limit == knownLimit ? samePlaces(text) : 0;
            for (int end = same + 1; end <= text.size; end++) {
                learnBlocksTo(end, text, limit);
                known[end - 1] = text.symbols[end - 1];
            }
            knownSize = text.size;
            knownLimit = limit;
        }

        /** The cost of a block; NONE if it has no code. */
        int priceOf(int from, int to, Settings settings) {
            if (from < 0 || from >= to || to > MOST_PLACES) {
                return NONE;
            }
            int at = rowOf(to) + from;
            return sums[at] == NONE ? NONE : settings.priceOf(kinds[at], sums[at]);
        }

        private int samePlaces(Text text) {
            int both = Math.min(knownSize, text.size);
            for (int place = 0; place < both; place++) {
                if (known[place] != text.symbols[place]) {
                    return place;
                }
            }
            return both;
        }

        private void learnBlocksTo(int end, Text text, int limit) {
            tally.clear();
            for (int from = end - 1; from >= 0; from--) {
                tally.add(text.symbols[from]);
                sums[rowOf(end) + from] = merge.leastSum(tally, limit);
                kinds[rowOf(end) + from] = tally.kinds;
            }
        }

        /** There are 1 + 2 + .. + (end - 1) blocks that end earlier. */
        private static int rowOf(int end) {
            return end * (end - 1) / 2;
        }
    }

    /** Splits a text, from its end on: for each place, how the rest of the text is split best. */
    private static final class Splitter {
        private final BlockTable table = new BlockTable();
        final int[] costs = new int[MOST_PLACES + 1];
        final int[] blocks = new int[MOST_PLACES + 1];
        final int[] ends = new int[MOST_PLACES + 1];

        void split(Text text, Settings settings) {
            table.learn(text, settings.limit);
            costs[text.size] = 0;
            blocks[text.size] = 0;
            for (int from = text.size - 1; from >= 0; from--) {
                chooseEnd(from, Math.min(text.size, from + settings.greatest), settings);
            }
        }

        /** Ends are tried in ascending order, so of equal ones the last is the longest block. */
        private void chooseEnd(int from, int lastEnd, Settings settings) {
            costs[from] = TOO_MUCH;
            blocks[from] = MOST_PLACES;
            ends[from] = from + 1;
            for (int end = from + 1; end <= lastEnd; end++) {
                int price = table.priceOf(from, end, settings);
                if (price == NONE) {
                    return;
                }
                int cost = price + costs[end];
                int many = 1 + blocks[end];
                if (cost < costs[from] || cost == costs[from] && many <= blocks[from]) {
                    costs[from] = cost;
                    blocks[from] = many;
                    ends[from] = end;
                }
            }
        }
    }

    /** The blocks with their codes; the rows of lengths and words have 16 cells a block. */
    private static final class Plan {
        final int[] starts = new int[MOST_PLACES];
        final int[] ends = new int[MOST_PLACES];
        final int[] blockOf = new int[MOST_PLACES];
        final int[] lengths = new int[MOST_PLACES * SYMBOLS];
        final int[] words = new int[MOST_PLACES * SYMBOLS];
        int blocks = 0;
        int cost = 0;

        static int cellOf(int block, int symbol) {
            return block >= 0 && block < MOST_PLACES && isSymbol(symbol) ? block * SYMBOLS + symbol : 0;
        }

        void follow(Splitter splitter, Text text) {
            cost = splitter.costs[0];
            blocks = 0;
            int end = 0;
            for (int place = 0; place < text.size; place++) {
                if (place == end) {
                    end = splitter.ends[place];
                    starts[blocks] = place;
                    ends[blocks] = end;
                    blocks++;
                }
                blockOf[place] = blocks - 1;
            }
        }

        void keepCode(int block, int[] found, int limit) {
            for (int symbol = 0; symbol < SYMBOLS; symbol++) {
                int cell = cellOf(block, symbol);
                lengths[cell] = found[symbol];
                words[cell] = NONE;
            }
            int word = 0;
            for (int length = 1; length <= limit; length++) {
                word *= 2;
                for (int symbol = 0; symbol < SYMBOLS; symbol++) {
                    if (found[symbol] == length) {
                        words[cellOf(block, symbol)] = word;
                        word++;
                    }
                }
            }
        }

        int symbolWith(int block, int length, int word) {
            for (int symbol = 0; symbol < SYMBOLS; symbol++) {
                int cell = cellOf(block, symbol);
                if (lengths[cell] == length && words[cell] == word) {
                    return symbol;
                }
            }
            return NONE;
        }
    }
}
