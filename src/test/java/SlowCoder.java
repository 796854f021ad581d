import java.util.ArrayList;
import java.util.List;
import java.util.NoSuchElementException;
import java.util.TreeMap;

/**
 * The document once more, written in another way than BlockCoder: nothing is kept between calls
 * that could be worked out again, and each "best of" is one comparison of whole candidates.
 */
final class SlowCoder {
    private List<Integer> text = new ArrayList<>();
    private int limit = 5;
    private int header = 20;
    private int perSymbol = 4;
    private int greatest = 80;
    private List<Integer> sizes = null;
    private String bits = "";
    private List<Integer> reading = new ArrayList<>();

    int append(int symbol, int many) {
        illegal(symbol < 0 || symbol > 15 || many < 1 || many > 80);
        stateless(text.size() + many > 80);
        for (int i = 0; i < many; i++) {
            text.add(symbol);
        }
        return changed(text.size());
    }

    int feed(long symbols, int many) {
        illegal(many < 1 || many > 16);
        stateless(text.size() + many > 80);
        String hex = String.format("%016x", symbols);
        for (int i = 0; i < many; i++) {
            text.add(Integer.parseInt(hex.substring(i, i + 1), 16));
        }
        return changed(text.size());
    }

    int set(int place, int symbol) {
        outside(place < 0 || place >= text.size());
        illegal(symbol < 0 || symbol > 15);
        return changed(text.set(place, symbol));
    }

    int cut(int many) {
        illegal(many < 0 || many > text.size());
        text = new ArrayList<>(text.subList(0, text.size() - many));
        return changed(text.size());
    }

    int size() {
        return text.size();
    }

    int count(int from, int to, int symbol) {
        outside(from < 0 || to > text.size() || from > to || symbol < 0 || symbol > 15);
        return (int) text.subList(from, to).stream().filter(s -> s == symbol).count();
    }

    int setLimit(int limit) {
        illegal(limit < 1 || limit > 6);
        int before = this.limit;
        this.limit = limit;
        return changed(before);
    }

    boolean setPrices(int header, int symbol) {
        illegal(header < 0 || header > 200 || symbol < 0 || symbol > 20);
        boolean same = this.header == header && perSymbol == symbol;
        this.header = header;
        perSymbol = symbol;
        changed(0);
        return !same;
    }

    int setGreatest(int size) {
        illegal(size < 1 || size > 80);
        int before = greatest;
        greatest = size;
        return changed(before);
    }

    int costOf(int from, int to) {
        outside(from < 0 || to > text.size() || from >= to);
        int[] code = codeOf(from, to);
        if (code == null) {
            return -1;
        }
        long kinds = text.subList(from, to).stream().distinct().count();
        return header + perSymbol * (int) kinds + sumOf(code, from, to);
    }

    int plan() {
        if (sizes == null) {
            sizes = bestSizes();
        }
        return sizes.size();
    }

    boolean hasPlan() {
        return sizes != null;
    }

    int cost() {
        stateless(sizes == null);
        int sum = 0;
        for (int block = 0; block < sizes.size(); block++) {
            sum += costOf(startOf(block), startOf(block + 1));
        }
        return sum;
    }

    int start(int block) {
        needBlock(block);
        return startOf(block);
    }

    int length(int block, int symbol) {
        needBlock(block);
        outside(symbol < 0 || symbol > 15);
        return codeOf(block)[symbol];
    }

    int word(int block, int symbol) {
        needBlock(block);
        outside(symbol < 0 || symbol > 15);
        for (var entry : wordsOf(block).entrySet()) {
            if (entry.getValue() == symbol) {
                return Integer.parseInt(entry.getKey(), 2);
            }
        }
        return -1;
    }

    int slack(int block) {
        needBlock(block);
        double used = 0;
        for (String word : wordsOf(block).keySet()) {
            used += Math.pow(2, limit - word.length());
        }
        return (int) (Math.pow(2, limit) - used);
    }

    int look(int block, int bits) {
        needBlock(block);
        illegal(bits < 0 || bits >= 1 << limit);
        String row = String.format("%6s", Integer.toBinaryString(bits)).replace(' ', '0');
        row = row.substring(6 - limit);
        for (var entry : wordsOf(block).entrySet()) {
            if (row.startsWith(entry.getKey())) {
                return 16 * entry.getKey().length() + entry.getValue();
            }
        }
        return -1;
    }

    int gain() {
        stateless(sizes == null);
        if (text.isEmpty()) {
            throw new NoSuchElementException();
        }
        int whole = costOf(0, text.size());
        return whole < 0 ? -1 : whole - cost();
    }

    int write() {
        stateless(sizes == null);
        bits = allWords();
        return bits.length();
    }

    int bitCount() {
        return bits.length();
    }

    int bit(int index) {
        outside(index < 0 || index >= bits.length());
        return bits.charAt(index) - '0';
    }

    int flip(int index) {
        int before = bit(index);
        bits = bits.substring(0, index) + (1 - before) + bits.substring(index + 1);
        return before;
    }

    int read() {
        stateless(sizes == null);
        reading = new ArrayList<>();
        String left = bits;
        for (int block = 0; block < sizes.size(); block++) {
            TreeMap<String, Integer> words = wordsOf(block);
            for (int i = 0; i < sizes.get(block); i++) {
                String found = null;
                for (String word : words.keySet()) {
                    if (left.startsWith(word)) {
                        found = word;
                    }
                }
                if (found == null) {
                    return reading.size();
                }
                reading.add(words.get(found));
                left = left.substring(found.length());
            }
        }
        return reading.size();
    }

    int got(int index) {
        outside(index < 0 || index >= reading.size());
        return reading.get(index);
    }

    int differences() {
        int different = 0;
        for (int place = 0; place < Math.max(text.size(), reading.size()); place++) {
            boolean both = place < text.size() && place < reading.size();
            if (!both || !text.get(place).equals(reading.get(place))) {
                different++;
            }
        }
        return different;
    }

    double average() {
        stateless(sizes == null);
        return text.isEmpty() ? 0.0 : allWords().length() / (double) text.size();
    }

    long digest() {
        List<Integer> numbers = new ArrayList<>(List.of(limit, header, perSymbol, greatest, text.size()));
        numbers.addAll(text);
        if (sizes != null) {
            numbers.add(cost());
            numbers.add(sizes.size());
            for (int block = 0; block < sizes.size(); block++) {
                numbers.add(startOf(block));
                for (int length : codeOf(block)) {
                    numbers.add(length);
                }
            }
        }
        numbers.add(bits.length());
        for (char bit : bits.toCharArray()) {
            numbers.add(bit - '0');
        }
        long d = 101;
        for (int x : numbers) {
            d = d * 31 + x;
        }
        return d;
    }

    private static void illegal(boolean wrong) {
        if (wrong) {
            throw new IllegalArgumentException();
        }
    }

    private static void stateless(boolean wrong) {
        if (wrong) {
            throw new IllegalStateException();
        }
    }

    private static void outside(boolean wrong) {
        if (wrong) {
            throw new IndexOutOfBoundsException();
        }
    }

    private void needBlock(int block) {
        stateless(sizes == null);
        outside(block < 0 || block >= sizes.size());
    }

    private int changed(int answer) {
        sizes = null;
        bits = "";
        return answer;
    }

    private int startOf(int block) {
        return sizes.subList(0, block).stream().mapToInt(Integer::intValue).sum();
    }

    private int[] codeOf(int block) {
        return codeOf(startOf(block), startOf(block + 1));
    }

    /**
     * A code is one number: the sum of its lengths, then the lengths of symbols 0 to 15, 3 bits
     * each; so the least number is the code of the block. best[room] is that for the symbols seen.
     */
    private int[] codeOf(int from, int to) {
        int[] counts = new int[16];
        for (int symbol : text.subList(from, to)) {
            counts[symbol]++;
        }
        long[] best = new long[(1 << limit) + 1];
        for (int symbol = 15; symbol >= 0; symbol--) {
            if (counts[symbol] > 0) {
                best = withSymbol(best, symbol, counts[symbol]);
            }
        }
        long code = best[1 << limit];
        if (code == Long.MAX_VALUE) {
            return null;
        }
        int[] lengths = new int[16];
        for (int symbol = 0; symbol < 16; symbol++) {
            lengths[symbol] = (int) (code >> 3 * (15 - symbol)) & 7;
        }
        return lengths;
    }

    private long[] withSymbol(long[] best, int symbol, int count) {
        long[] next = new long[best.length];
        for (int room = 0; room < best.length; room++) {
            next[room] = Long.MAX_VALUE;
            for (int length = 1; length <= limit; length++) {
                int left = room - (1 << limit >> length);
                if (left >= 0 && best[left] < Long.MAX_VALUE) {
                    long code = ((long) count * length << 48) + ((long) length << 3 * (15 - symbol));
                    next[room] = Math.min(next[room], best[left] + code);
                }
            }
        }
        return next;
    }

    private int sumOf(int[] code, int from, int to) {
        return text.subList(from, to).stream().mapToInt(s -> code[s]).sum();
    }

    /** The words as texts of 0 and 1, each with its symbol, as the document gives them out. */
    private TreeMap<String, Integer> wordsOf(int block) {
        int[] code = codeOf(block);
        List<Integer> order = new ArrayList<>();
        for (int symbol = 0; symbol < 16; symbol++) {
            if (code[symbol] > 0) {
                order.add(symbol);
            }
        }
        order.sort((a, b) -> code[a] != code[b] ? code[a] - code[b] : a - b);
        TreeMap<String, Integer> words = new TreeMap<>();
        int word = 0;
        for (int i = 0; i < order.size(); i++) {
            int length = code[order.get(i)];
            if (i > 0) {
                word = (word + 1) << (length - code[order.get(i - 1)]);
            }
            String row = Integer.toBinaryString(word);
            words.put("0".repeat(length - row.length()) + row, order.get(i));
        }
        return words;
    }

    private String allWords() {
        StringBuilder row = new StringBuilder();
        for (int block = 0; block < sizes.size(); block++) {
            TreeMap<String, Integer> words = wordsOf(block);
            for (int place = startOf(block); place < startOf(block + 1); place++) {
                for (var entry : words.entrySet()) {
                    if (entry.getValue().equals(text.get(place))) {
                        row.append(entry.getKey());
                    }
                }
            }
        }
        return row.toString();
    }

    /** From the start on: of all plans for each beginning of the text, the best one as a whole. */
    private List<Integer> bestSizes() {
        List<List<Integer>> best = new ArrayList<>();
        int[] costs = new int[text.size() + 1];
        best.add(List.of());
        for (int end = 1; end <= text.size(); end++) {
            best.add(null);
            for (int from = Math.max(0, end - greatest); from < end; from++) {
                int price = costOf(from, end);
                if (price < 0) {
                    continue;
                }
                List<Integer> plan = new ArrayList<>(best.get(from));
                plan.add(end - from);
                int cost = costs[from] + price;
                if (best.get(end) == null || isBetter(cost, plan, costs[end], best.get(end))) {
                    best.set(end, plan);
                    costs[end] = cost;
                }
            }
        }
        return best.get(text.size());
    }

    static boolean isBetter(int cost, List<Integer> plan, int otherCost, List<Integer> other) {
        if (cost != otherCost) {
            return cost < otherCost;
        }
        if (plan.size() != other.size()) {
            return plan.size() < other.size();
        }
        for (int block = 0; block < plan.size(); block++) {
            if (!plan.get(block).equals(other.get(block))) {
                return plan.get(block) > other.get(block);
            }
        }
        return false;
    }
}
