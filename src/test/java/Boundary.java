import java.util.LinkedHashMap;
import java.util.Map;

/**
 * Makes a call on a new object that was brought to a scene, compares the answer or the exception,
 * and then what later calls show with what they show of another new object.
 */
final class Boundary {
    static final int LEAST = Integer.MIN_VALUE;
    static final int MOST = Integer.MAX_VALUE;
    static final String ARGUMENT = "throws java.lang.IllegalArgumentException";
    static final String STATE = "throws java.lang.IllegalStateException";
    static final String BOUNDS = "throws java.lang.IndexOutOfBoundsException";
    static final String ELEMENT = "throws java.util.NoSuchElementException";

    /** Fibonacci's counts, 1 1 2 3 5 8 13: without a limit the code is as deep as it can be. */
    static final String DEEP = "0" + "1" + "22" + "333" + "44444" + "55555555" + "6666666666666";
    /** 80 symbols, five of each. */
    static final String FULL = "0123456789abcdef".repeat(5);

    interface Scene {
        BlockCoder make();
    }

    interface Call {
        Object on(BlockCoder coder);
    }

    private final Check check = new Check();
    private String promise = "";

    /** The promise, or the part of the description, that the next tests are about. */
    void about(String name) {
        promise = name + ": ";
    }

    /** A call that asks only: it answers, and later calls show what they would have shown without it. */
    void asks(String name, Scene scene, Call call, Object due) {
        changes(name, scene, call, due, scene);
    }

    /** A call that answers and leaves the object as the scene after it. */
    void changes(String name, Scene scene, Call call, Object due, Scene after) {
        BlockCoder coder = scene.make();
        check.due(promise + name, due, () -> call.on(coder));
        check.same(promise + name + ", later calls", Shown.by(coder), Shown.by(after.make()));
    }

    /** A call that is refused: it throws, and changes nothing. */
    void refuses(String name, Scene scene, Call call, String exception) {
        changes(name, scene, call, exception, scene);
    }

    void refusesEverywhere(String name, Call call, String exception) {
        everywhere().forEach((place, scene) -> refuses(name + ", " + place, scene, call, exception));
    }

    void refusesWithoutPlan(String name, Call call) {
        withoutPlan().forEach((place, scene) -> refuses(name + ", " + place, scene, call, STATE));
    }

    void same(String name, Object got, Object due) {
        check.same(promise + name, String.valueOf(got), String.valueOf(due));
    }

    void finish(String test) {
        check.finish(test);
    }

    /** Objects of every kind: new, with a text, a plan, bits, a reading, full, changed after a reading. */
    static Map<String, Scene> everywhere() {
        Map<String, Scene> scenes = new LinkedHashMap<>(withoutPlan());
        scenes.putAll(withPlan());
        return scenes;
    }

    static Map<String, Scene> withoutPlan() {
        Map<String, Scene> scenes = new LinkedHashMap<>();
        scenes.put("new", BlockCoder::new);
        scenes.put("a text without a plan", () -> text("2102"));
        scenes.put("a full text without a plan", () -> text(FULL));
        scenes.put("a text that was changed after a reading", () -> {
            BlockCoder coder = damaged();
            coder.set(1, 7);
            return coder;
        });
        scenes.put("a text that was emptied after a reading", () -> {
            BlockCoder coder = damaged();
            coder.cut(4);
            return coder;
        });
        return scenes;
    }

    static Map<String, Scene> withPlan() {
        Map<String, Scene> scenes = new LinkedHashMap<>();
        scenes.put("an empty plan", () -> planned(""));
        scenes.put("a plan", () -> planned("2102"));
        scenes.put("a plan and bits", () -> written("2102"));
        scenes.put("a plan, damaged bits and a reading", Boundary::damaged);
        scenes.put("two blocks", Boundary::twoBlocks);
        scenes.put("other settings", () -> {
            BlockCoder coder = withSettings("0123450", 2, 9, 3, 4);
            coder.plan();
            coder.write();
            return coder;
        });
        scenes.put("full of all", () -> {
            BlockCoder coder = written(FULL);
            coder.flip(7);
            coder.read();
            return coder;
        });
        return scenes;
    }

    /** The text is given by hexadecimal digits, a symbol each, and fed in the largest pieces. */
    static BlockCoder text(String symbols) {
        BlockCoder coder = new BlockCoder();
        for (int from = 0; from < symbols.length(); from += 16) {
            String piece = symbols.substring(from, Math.min(from + 16, symbols.length()));
            String padded = piece + "0".repeat(16 - piece.length());
            coder.feed(Long.parseUnsignedLong(padded, 16), piece.length());
        }
        return coder;
    }

    static BlockCoder planned(String symbols) {
        BlockCoder coder = text(symbols);
        coder.plan();
        return coder;
    }

    static BlockCoder planned(String symbols, int limit, int header, int perSymbol) {
        BlockCoder coder = withSettings(symbols, limit, header, perSymbol, 80);
        coder.plan();
        return coder;
    }

    static BlockCoder written(String symbols) {
        BlockCoder coder = planned(symbols);
        coder.write();
        return coder;
    }

    static BlockCoder withSettings(String symbols, int limit, int header, int perSymbol, int greatest) {
        BlockCoder coder = text(symbols);
        coder.setLimit(limit);
        coder.setPrices(header, perSymbol);
        coder.setGreatest(greatest);
        return coder;
    }

    /** 2102 is written 0 11 10 0; with the second bit turned it is read 0 0 11 0, which is 2212. */
    static BlockCoder damaged() {
        BlockCoder coder = written("2102");
        coder.flip(1);
        coder.read();
        return coder;
    }

    /** Blocks of 8 places each, with the symbols 0 and 1, then 2 and 3; all words have one bit. */
    static BlockCoder twoBlocks() {
        BlockCoder coder = planned("0000111122223333", 5, 2, 0);
        coder.write();
        return coder;
    }

    /** The symbols of the text, from the first place on; this takes the text apart. */
    static String textOf(BlockCoder coder) {
        StringBuilder symbols = new StringBuilder();
        int size = coder.size();
        for (int place = 0; place < size; place++) {
            symbols.append(Character.forDigit(coder.set(place, 0), 16));
        }
        return symbols.toString();
    }

    static String startsOf(BlockCoder coder) {
        StringBuilder starts = new StringBuilder();
        int blocks = coder.plan();
        for (int block = 0; block < blocks; block++) {
            starts.append(block == 0 ? "" : " ").append(coder.start(block));
        }
        return starts.toString();
    }

    /** The lengths of the symbols 0 to 15, a digit each, without the zeros at the end. */
    static String lengthsOf(BlockCoder coder, int block) {
        StringBuilder lengths = new StringBuilder();
        for (int symbol = 0; symbol < 16; symbol++) {
            lengths.append(coder.length(block, symbol));
        }
        return lengths.toString().replaceAll("0+$", "");
    }

    static String bitsOf(BlockCoder coder) {
        StringBuilder bits = new StringBuilder();
        int total = coder.bitCount();
        for (int index = 0; index < total; index++) {
            bits.append(coder.bit(index));
        }
        return bits.toString();
    }

    static String readingOf(BlockCoder coder, int total) {
        StringBuilder symbols = new StringBuilder();
        for (int index = 0; index < total; index++) {
            symbols.append(Character.forDigit(coder.got(index), 16));
        }
        return symbols.toString();
    }
}
