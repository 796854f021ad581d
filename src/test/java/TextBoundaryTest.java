/** The boundary cases of promises 1 to 7: a new object, and the text. */
public final class TextBoundaryTest {
    private static final int LEAST = Boundary.LEAST;
    private static final int MOST = Boundary.MOST;
    private static final int[] NO_SYMBOLS = {-1, 16, LEAST, MOST};

    private final Boundary boundary = new Boundary();

    private TextBoundaryTest() {
    }

    public static void main(String[] args) {
        TextBoundaryTest test = new TextBoundaryTest();
        test.newObjectHasAnEmptyText();
        test.newObjectHasNoPlan();
        test.newObjectHasTheFirstSettings();
        test.newObjectSharesNothing();
        test.appendSymbolIsNot0To15();
        test.appendManyIsNot1To80();
        test.appendMoreThan80Symbols();
        test.appendArgumentIsNamedBeforeState();
        test.feedManyIsNot1To16();
        test.feedTakesTheHighestFirst();
        test.feedMoreThan80Symbols();
        test.feedArgumentIsNamedBeforeState();
        test.setNoSuchPlace();
        test.setSymbolIsNot0To15();
        test.setPlaceIsNamedBeforeSymbol();
        test.setReturnsTheSymbolBefore();
        test.cutNegative();
        test.cutGreaterThanTheSize();
        test.cutRemovesTheLast();
        test.size();
        test.countFromIsNegative();
        test.countToIsGreaterThanTheSize();
        test.countFromIsGreaterThanTo();
        test.countSymbolIsNot0To15();
        test.countLeavesTheSecondPlaceOut();
        test.boundary.finish("TextBoundaryTest");
    }

    /** "Creates a coder with an empty text". */
    private void newObjectHasAnEmptyText() {
        boundary.about("Promise 1, an empty text");
        boundary.asks("size", BlockCoder::new, coder -> coder.size(), 0);
        boundary.asks("count", BlockCoder::new, coder -> coder.count(0, 0, 0), 0);
        boundary.refuses("count a place", BlockCoder::new, coder -> coder.count(0, 1, 0), Boundary.BOUNDS);
        boundary.refuses("set the first place", BlockCoder::new, coder -> coder.set(0, 0), Boundary.BOUNDS);
        boundary.changes("cut nothing", BlockCoder::new, coder -> coder.cut(0), 0, BlockCoder::new);
        boundary.refuses("cut a symbol", BlockCoder::new, coder -> coder.cut(1), Boundary.ARGUMENT);
        boundary.refuses("cost of a place", BlockCoder::new, coder -> coder.costOf(0, 1), Boundary.BOUNDS);
        boundary.changes("the first symbol", BlockCoder::new, coder -> coder.append(3, 1), 1, () -> Boundary.text("3"));
        boundary.asks("nothing is read", BlockCoder::new, coder -> coder.got(0), Boundary.BOUNDS);
        boundary.asks("differences", BlockCoder::new, coder -> coder.differences(), 0);
    }

    /** ".. and without a plan". */
    private void newObjectHasNoPlan() {
        boundary.about("Promise 1, without a plan");
        boundary.asks("hasPlan", BlockCoder::new, coder -> coder.hasPlan(), false);
        boundary.refuses("cost", BlockCoder::new, coder -> coder.cost(), Boundary.STATE);
        boundary.refuses("gain", BlockCoder::new, coder -> coder.gain(), Boundary.STATE);
        boundary.refuses("average", BlockCoder::new, coder -> coder.average(), Boundary.STATE);
        boundary.refuses("write", BlockCoder::new, coder -> coder.write(), Boundary.STATE);
        boundary.refuses("read", BlockCoder::new, coder -> coder.read(), Boundary.STATE);
        boundary.asks("bitCount", BlockCoder::new, coder -> coder.bitCount(), 0);
        boundary.refuses("bit", BlockCoder::new, coder -> coder.bit(0), Boundary.BOUNDS);
        boundary.refuses("flip", BlockCoder::new, coder -> coder.flip(0), Boundary.BOUNDS);
        boundary.changes("plan", BlockCoder::new, coder -> coder.plan(), 0, () -> Boundary.planned(""));
    }

    /** "5 at first", "20 at first", "4 at first", "80 at first". */
    private void newObjectHasTheFirstSettings() {
        boundary.about("Promise 1, the settings at first");
        boundary.changes("limit", BlockCoder::new, coder -> coder.setLimit(5), 5, BlockCoder::new);
        boundary.changes("prices", BlockCoder::new, coder -> coder.setPrices(20, 4), false, BlockCoder::new);
        boundary.changes("greatest", BlockCoder::new, coder -> coder.setGreatest(80), 80, BlockCoder::new);
        long d = 101;
        for (int x : new int[] {5, 20, 4, 80, 0, 0}) {
            d = d * 31 + x;
        }
        boundary.asks("digest", BlockCoder::new, coder -> coder.digest(), d);
    }

    private void newObjectSharesNothing() {
        boundary.about("Promise 1, a new object is new");
        String alone = Shown.by(new BlockCoder());
        BlockCoder before = new BlockCoder();
        Boundary.withPlan().get("full of all").make();
        Boundary.withPlan().get("other settings").make();
        boundary.same("made before others were used", Shown.by(before), alone);
        boundary.same("made after others were used", Shown.by(new BlockCoder()), alone);
    }

    /** "IllegalArgumentException if symbol is not 0 to 15". */
    private void appendSymbolIsNot0To15() {
        boundary.about("Promise 2, symbol is not 0 to 15");
        for (int symbol : NO_SYMBOLS) {
            boundary.refusesEverywhere("append(" + symbol + ", 1)", coder -> coder.append(symbol, 1), Boundary.ARGUMENT);
        }
        boundary.changes("0", () -> Boundary.text("21"), coder -> coder.append(0, 1), 3, () -> Boundary.text("210"));
        boundary.changes("1", () -> Boundary.text("21"), coder -> coder.append(1, 1), 3, () -> Boundary.text("211"));
        boundary.changes("14", () -> Boundary.text("21"), coder -> coder.append(14, 1), 3, () -> Boundary.text("21e"));
        boundary.changes("15", () -> Boundary.text("21"), coder -> coder.append(15, 1), 3, () -> Boundary.text("21f"));
    }

    /** ".. or many is not 1 to 80". */
    private void appendManyIsNot1To80() {
        boundary.about("Promise 2, many is not 1 to 80");
        for (int many : new int[] {0, -1, 81, 82, LEAST, MOST}) {
            boundary.refusesEverywhere("append(1, " + many + ")", coder -> coder.append(1, many), Boundary.ARGUMENT);
        }
        boundary.changes("1", BlockCoder::new, coder -> coder.append(9, 1), 1, () -> Boundary.text("9"));
        boundary.changes("2", BlockCoder::new, coder -> coder.append(9, 2), 2, () -> Boundary.text("99"));
        boundary.changes("79", BlockCoder::new, coder -> coder.append(9, 79), 79, () -> Boundary.text("9".repeat(79)));
        boundary.changes("80", BlockCoder::new, coder -> coder.append(9, 80), 80, () -> Boundary.text("9".repeat(80)));
    }

    /** "IllegalStateException if the text would have more than 80 symbols". */
    private void appendMoreThan80Symbols() {
        boundary.about("Promise 2, more than 80 symbols");
        for (int size : new int[] {1, 4, 40, 79}) {
            String before = Boundary.FULL.substring(0, size);
            int room = 80 - size;
            boundary.changes(size + " and " + (room - 1), () -> Boundary.text(before),
                coder -> room == 1 ? coder.size() : coder.append(7, room - 1), 79,
                () -> Boundary.text(before + "7".repeat(room - 1)));
            boundary.changes(size + " and " + room, () -> Boundary.text(before), coder -> coder.append(7, room), 80,
                () -> Boundary.text(before + "7".repeat(room)));
            boundary.refuses(size + " and " + (room + 1), () -> Boundary.text(before),
                coder -> coder.append(7, room + 1), Boundary.STATE);
            boundary.refuses(size + " and 80", () -> Boundary.text(before), coder -> coder.append(7, 80), Boundary.STATE);
        }
        boundary.refuses("80 and 1", () -> Boundary.text(Boundary.FULL), coder -> coder.append(7, 1), Boundary.STATE);
        boundary.refuses("80 and 80", () -> Boundary.text(Boundary.FULL), coder -> coder.append(7, 80), Boundary.STATE);
        boundary.refuses("with a plan and bits", () -> Boundary.written(Boundary.FULL),
            coder -> coder.append(7, 1), Boundary.STATE);
        boundary.refuses("with a plan, bits and a reading", Boundary::damaged,
            coder -> coder.append(7, 77), Boundary.STATE);
    }

    /** "If several exceptions apply, the one that is named first is thrown". */
    private void appendArgumentIsNamedBeforeState() {
        boundary.about("Promise 2, a wrong argument and a full text");
        boundary.refuses("symbol 16", () -> Boundary.text(Boundary.FULL), coder -> coder.append(16, 1), Boundary.ARGUMENT);
        boundary.refuses("symbol -1", () -> Boundary.text(Boundary.FULL), coder -> coder.append(-1, 80), Boundary.ARGUMENT);
        boundary.refuses("many 81", () -> Boundary.text(Boundary.FULL), coder -> coder.append(0, 81), Boundary.ARGUMENT);
        boundary.refuses("many 0", () -> Boundary.text(Boundary.FULL), coder -> coder.append(0, 0), Boundary.ARGUMENT);
        boundary.refuses("many 81, room for none", () -> Boundary.text("0"), coder -> coder.append(0, 81), Boundary.ARGUMENT);
    }

    /** "IllegalArgumentException if many is not 1 to 16". */
    private void feedManyIsNot1To16() {
        boundary.about("Promise 3, many is not 1 to 16");
        for (int many : new int[] {0, -1, 17, 80, LEAST, MOST}) {
            boundary.refusesEverywhere("feed(-1, " + many + ")", coder -> coder.feed(-1L, many), Boundary.ARGUMENT);
        }
        for (int many = 1; many <= 16; many++) {
            int fed = many;
            String symbols = "fedcba9876543210".substring(0, many);
            BlockCoder coder = new BlockCoder();
            boundary.same(many + " symbols", coder.feed(0xFEDCBA9876543210L, fed), many);
            boundary.same(many + " symbols, the text", Boundary.textOf(coder), symbols);
        }
    }

    /** "4 bits each, the highest ones first", also where the number is negative. */
    private void feedTakesTheHighestFirst() {
        boundary.about("Promise 3, the highest ones first");
        fed(Long.MIN_VALUE, 1, "8");
        fed(Long.MAX_VALUE, 1, "7");
        fed(Long.MIN_VALUE, 16, "8000000000000000");
        fed(Long.MAX_VALUE, 16, "7fffffffffffffff");
        fed(-1L, 1, "f");
        fed(-1L, 16, "ffffffffffffffff");
        fed(0L, 1, "0");
        fed(0L, 16, "0000000000000000");
        fed(1L, 15, "000000000000000");
        fed(1L, 16, "0000000000000001");
        fed(0x0FFFFFFFFFFFFFFFL, 1, "0");
        fed(0x00000000F0000000L, 8, "00000000");
        fed(0x00000000F0000000L, 9, "00000000f");
        fed(0xFFFFFFFF00000000L, 9, "ffffffff0");
        for (long symbol = 0; symbol < 16; symbol++) {
            fed(symbol << 60, 1, Long.toHexString(symbol));
        }
    }

    private void fed(long symbols, int many, String due) {
        BlockCoder coder = Boundary.text("5");
        boundary.same("feed(" + symbols + ", " + many + ")", coder.feed(symbols, many), 1 + many);
        boundary.same("feed(" + symbols + ", " + many + "), the text", Boundary.textOf(coder), "5" + due);
    }

    /** "IllegalStateException if the text would have more than 80 symbols". */
    private void feedMoreThan80Symbols() {
        boundary.about("Promise 3, more than 80 symbols");
        for (int many = 1; many <= 16; many++) {
            int fed = many;
            String most = Boundary.FULL.substring(0, 80 - many);
            String over = Boundary.FULL.substring(0, 81 - many);
            String under = Boundary.FULL.substring(0, 79 - many);
            boundary.changes(under.length() + " and " + many, () -> Boundary.text(under), coder -> coder.feed(0L, fed), 79,
                () -> Boundary.text(under + "0".repeat(fed)));
            boundary.changes(most.length() + " and " + many, () -> Boundary.text(most), coder -> coder.feed(0L, fed), 80,
                () -> Boundary.text(most + "0".repeat(fed)));
            boundary.refuses(over.length() + " and " + many, () -> Boundary.text(over),
                coder -> coder.feed(0L, fed), Boundary.STATE);
            boundary.refuses("80 and " + many, () -> Boundary.written(Boundary.FULL),
                coder -> coder.feed(0L, fed), Boundary.STATE);
        }
    }

    private void feedArgumentIsNamedBeforeState() {
        boundary.about("Promise 3, a wrong argument and a full text");
        for (int many : new int[] {0, 17, LEAST, MOST}) {
            boundary.refuses("many " + many, () -> Boundary.text(Boundary.FULL),
                coder -> coder.feed(0L, many), Boundary.ARGUMENT);
        }
        boundary.refuses("many 17, room for 15", () -> Boundary.text(Boundary.FULL.substring(0, 65)),
            coder -> coder.feed(0L, 17), Boundary.ARGUMENT);
    }

    /** "IndexOutOfBoundsException if there is no such place". */
    private void setNoSuchPlace() {
        boundary.about("Promise 4, no such place");
        for (int place : new int[] {-1, 80, 81, LEAST, MOST}) {
            boundary.refusesEverywhere("set(" + place + ", 1)", coder -> coder.set(place, 1), Boundary.BOUNDS);
        }
        boundary.changes("the first", () -> Boundary.text("2102"), coder -> coder.set(0, 7), 2, () -> Boundary.text("7102"));
        boundary.changes("the last", () -> Boundary.text("2102"), coder -> coder.set(3, 7), 2, () -> Boundary.text("2107"));
        boundary.refuses("behind the last", () -> Boundary.text("2102"), coder -> coder.set(4, 7), Boundary.BOUNDS);
        boundary.refuses("behind the last, with bits", Boundary::damaged, coder -> coder.set(4, 7), Boundary.BOUNDS);
        boundary.changes("the 80th", () -> Boundary.text(Boundary.FULL), coder -> coder.set(79, 7), 15,
            () -> Boundary.text(Boundary.FULL.substring(0, 79) + "7"));
        boundary.changes("the only one", () -> Boundary.text("5"), coder -> coder.set(0, 6), 5, () -> Boundary.text("6"));
        boundary.refuses("one that was cut", () -> shortened("2102", 1), coder -> coder.set(3, 7), Boundary.BOUNDS);
        boundary.refuses("none is left", () -> shortened("2102", 4), coder -> coder.set(0, 7), Boundary.BOUNDS);
    }

    private static BlockCoder shortened(String symbols, int many) {
        BlockCoder coder = Boundary.text(symbols);
        coder.cut(many);
        return coder;
    }

    /** "IllegalArgumentException if symbol is not 0 to 15". */
    private void setSymbolIsNot0To15() {
        boundary.about("Promise 4, symbol is not 0 to 15");
        for (int symbol : NO_SYMBOLS) {
            boundary.refuses("set(0, " + symbol + ")", Boundary::damaged, coder -> coder.set(0, symbol), Boundary.ARGUMENT);
            boundary.refuses("set(79, " + symbol + ")", () -> Boundary.written(Boundary.FULL),
                coder -> coder.set(79, symbol), Boundary.ARGUMENT);
        }
        boundary.changes("0", () -> Boundary.text("21"), coder -> coder.set(0, 0), 2, () -> Boundary.text("01"));
        boundary.changes("15", () -> Boundary.text("21"), coder -> coder.set(0, 15), 2, () -> Boundary.text("f1"));
    }

    private void setPlaceIsNamedBeforeSymbol() {
        boundary.about("Promise 4, no such place and no symbol");
        for (int symbol : NO_SYMBOLS) {
            boundary.refusesEverywhere("set(-1, " + symbol + ")", coder -> coder.set(-1, symbol), Boundary.BOUNDS);
            boundary.refusesEverywhere("set(80, " + symbol + ")", coder -> coder.set(80, symbol), Boundary.BOUNDS);
            boundary.refuses("set(4, " + symbol + ")", Boundary::damaged, coder -> coder.set(4, symbol), Boundary.BOUNDS);
            boundary.refuses("empty, set(0, " + symbol + ")", BlockCoder::new, coder -> coder.set(0, symbol), Boundary.BOUNDS);
        }
    }

    /** "Returns the symbol before", also if it is the same. */
    private void setReturnsTheSymbolBefore() {
        boundary.about("Promise 4, the symbol before");
        boundary.changes("the same", () -> Boundary.text("2102"), coder -> coder.set(1, 1), 1, () -> Boundary.text("2102"));
        boundary.changes("0", () -> Boundary.text("2102"), coder -> coder.set(2, 15), 0, () -> Boundary.text("21f2"));
        boundary.changes("twice", () -> Boundary.text("2f02"), coder -> coder.set(1, 0) * 16 + coder.set(1, 5), 15 * 16,
            () -> Boundary.text("2502"));
    }

    /** "IllegalArgumentException if many is negative". */
    private void cutNegative() {
        boundary.about("Promise 5, many is negative");
        boundary.refusesEverywhere("cut(-1)", coder -> coder.cut(-1), Boundary.ARGUMENT);
        boundary.refusesEverywhere("cut(-80)", coder -> coder.cut(-80), Boundary.ARGUMENT);
        boundary.refusesEverywhere("the least", coder -> coder.cut(LEAST), Boundary.ARGUMENT);
        boundary.changes("0", () -> Boundary.text("2102"), coder -> coder.cut(0), 4, () -> Boundary.text("2102"));
        boundary.changes("0 of none", BlockCoder::new, coder -> coder.cut(0), 0, BlockCoder::new);
        boundary.changes("0 of 80", () -> Boundary.text(Boundary.FULL), coder -> coder.cut(0), 80,
            () -> Boundary.text(Boundary.FULL));
        boundary.changes("1", () -> Boundary.text("2102"), coder -> coder.cut(1), 3, () -> Boundary.text("210"));
    }

    /** ".. or greater than the size". */
    private void cutGreaterThanTheSize() {
        boundary.about("Promise 5, many is greater than the size");
        boundary.refusesEverywhere("cut(81)", coder -> coder.cut(81), Boundary.ARGUMENT);
        boundary.refusesEverywhere("the most", coder -> coder.cut(MOST), Boundary.ARGUMENT);
        boundary.changes("one less", () -> Boundary.text("2102"), coder -> coder.cut(3), 1, () -> Boundary.text("2"));
        boundary.changes("the size", () -> Boundary.text("2102"), coder -> coder.cut(4), 0, BlockCoder::new);
        boundary.refuses("one more", () -> Boundary.text("2102"), coder -> coder.cut(5), Boundary.ARGUMENT);
        boundary.refuses("one more, with bits", Boundary::damaged, coder -> coder.cut(5), Boundary.ARGUMENT);
        boundary.refuses("1 of none", BlockCoder::new, coder -> coder.cut(1), Boundary.ARGUMENT);
        boundary.changes("80 of 80", () -> Boundary.text(Boundary.FULL), coder -> coder.cut(80), 0, BlockCoder::new);
        boundary.changes("79 of 80", () -> Boundary.text(Boundary.FULL), coder -> coder.cut(79), 1,
            () -> Boundary.text("0"));
    }

    /** "Removes the last symbols": they do not come back. */
    private void cutRemovesTheLast() {
        boundary.about("Promise 5, the last symbols");
        boundary.changes("then append", () -> shortened("2102", 2), coder -> coder.append(9, 1), 3,
            () -> Boundary.text("219"));
        boundary.changes("all, then append 80", () -> shortened(Boundary.FULL, 80), coder -> coder.append(9, 80), 80,
            () -> Boundary.text("9".repeat(80)));
        boundary.refuses("80 less 1, then 2", () -> shortened(Boundary.FULL, 1), coder -> coder.append(9, 2), Boundary.STATE);
        boundary.changes("80 less 1, then 1", () -> shortened(Boundary.FULL, 1), coder -> coder.append(9, 1), 80,
            () -> Boundary.text(Boundary.FULL.substring(0, 79) + "9"));
    }

    private void size() {
        boundary.about("Promise 6, size");
        for (int size : new int[] {0, 1, 2, 79, 80}) {
            boundary.asks("of " + size, () -> Boundary.text(Boundary.FULL.substring(0, size)), coder -> coder.size(), size);
            boundary.asks("of " + size + " with a plan and bits",
                () -> Boundary.written(Boundary.FULL.substring(0, size)), coder -> coder.size(), size);
        }
        boundary.asks("after a cut", () -> shortened("2102", 3), coder -> coder.size(), 1);
        boundary.asks("after a cut of all", () -> shortened("2102", 4), coder -> coder.size(), 0);
    }

    /** "IndexOutOfBoundsException if from is negative". */
    private void countFromIsNegative() {
        boundary.about("Promise 7, from is negative");
        boundary.refusesEverywhere("count(-1, 0, 0)", coder -> coder.count(-1, 0, 0), Boundary.BOUNDS);
        boundary.refusesEverywhere("count(-1, -1, 0)", coder -> coder.count(-1, -1, 0), Boundary.BOUNDS);
        boundary.refusesEverywhere("the least", coder -> coder.count(LEAST, 0, 0), Boundary.BOUNDS);
        boundary.refusesEverywhere("the least twice", coder -> coder.count(LEAST, LEAST, 0), Boundary.BOUNDS);
        boundary.refuses("to is right", Boundary::damaged, coder -> coder.count(-1, 4, 2), Boundary.BOUNDS);
        boundary.asks("0", Boundary::damaged, coder -> coder.count(0, 4, 2), 2);
        boundary.asks("1", Boundary::damaged, coder -> coder.count(1, 4, 2), 1);
    }

    /** ".. to is greater than the size". */
    private void countToIsGreaterThanTheSize() {
        boundary.about("Promise 7, to is greater than the size");
        boundary.refusesEverywhere("count(0, 81, 0)", coder -> coder.count(0, 81, 0), Boundary.BOUNDS);
        boundary.refusesEverywhere("the most", coder -> coder.count(0, MOST, 0), Boundary.BOUNDS);
        boundary.refusesEverywhere("the most twice", coder -> coder.count(MOST, MOST, 0), Boundary.BOUNDS);
        boundary.asks("one less", Boundary::damaged, coder -> coder.count(0, 3, 2), 1);
        boundary.asks("the size", Boundary::damaged, coder -> coder.count(0, 4, 2), 2);
        boundary.refuses("one more", Boundary::damaged, coder -> coder.count(0, 5, 2), Boundary.BOUNDS);
        boundary.refuses("one more, but empty", Boundary::damaged, coder -> coder.count(5, 5, 2), Boundary.BOUNDS);
        boundary.refuses("one that was cut", () -> shortened("2102", 1), coder -> coder.count(0, 4, 2), Boundary.BOUNDS);
        boundary.asks("80 of 80", () -> Boundary.text(Boundary.FULL), coder -> coder.count(0, 80, 15), 5);
        boundary.asks("79 of 80", () -> Boundary.text(Boundary.FULL), coder -> coder.count(0, 79, 15), 4);
        boundary.asks("0 of none", BlockCoder::new, coder -> coder.count(0, 0, 15), 0);
        boundary.refuses("1 of none", BlockCoder::new, coder -> coder.count(0, 1, 15), Boundary.BOUNDS);
    }

    /** ".. from is greater than to". */
    private void countFromIsGreaterThanTo() {
        boundary.about("Promise 7, from is greater than to");
        for (int place = 0; place <= 4; place++) {
            int at = place;
            boundary.asks("the same, " + at, Boundary::damaged, coder -> coder.count(at, at, 2), 0);
            boundary.refuses("greater, " + at, Boundary::damaged, coder -> coder.count(at + 1, at, 2), Boundary.BOUNDS);
        }
        boundary.asks("less by one", Boundary::damaged, coder -> coder.count(3, 4, 2), 1);
        boundary.refuses("much greater", Boundary::damaged, coder -> coder.count(MOST, 0, 2), Boundary.BOUNDS);
    }

    /** ".. or symbol is not 0 to 15". */
    private void countSymbolIsNot0To15() {
        boundary.about("Promise 7, symbol is not 0 to 15");
        for (int symbol : NO_SYMBOLS) {
            boundary.refusesEverywhere("count(0, 0, " + symbol + ")", coder -> coder.count(0, 0, symbol), Boundary.BOUNDS);
            boundary.refuses("count(0, 4, " + symbol + ")", Boundary::damaged,
                coder -> coder.count(0, 4, symbol), Boundary.BOUNDS);
        }
        boundary.asks("0", () -> Boundary.text("0f0"), coder -> coder.count(0, 3, 0), 2);
        boundary.asks("15", () -> Boundary.text("0f0"), coder -> coder.count(0, 3, 15), 1);
        boundary.asks("one that does not occur", () -> Boundary.text("0f0"), coder -> coder.count(0, 3, 7), 0);
    }

    /** "from the first one to the second one (this one not included)". */
    private void countLeavesTheSecondPlaceOut() {
        boundary.about("Promise 7, the second place is not included");
        for (int place = 0; place < 4; place++) {
            int at = place;
            int symbol = "2102".charAt(place) - '0';
            boundary.asks("the place before " + at, () -> Boundary.text("2102"), coder -> coder.count(at, at, symbol), 0);
            boundary.asks("the place " + at, () -> Boundary.text("2102"), coder -> coder.count(at, at + 1, symbol), 1);
        }
        boundary.asks("80 times", () -> Boundary.text("9".repeat(80)), coder -> coder.count(0, 80, 9), 80);
        boundary.asks("79 times", () -> Boundary.text("9".repeat(80)), coder -> coder.count(1, 80, 9), 79);
    }
}
