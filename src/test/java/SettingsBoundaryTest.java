/** The boundary cases of promises 8 to 10: the settings. */
public final class SettingsBoundaryTest {
    private static final int LEAST = Boundary.LEAST;
    private static final int MOST = Boundary.MOST;

    private final Boundary boundary = new Boundary();

    private SettingsBoundaryTest() {
    }

    public static void main(String[] args) {
        SettingsBoundaryTest test = new SettingsBoundaryTest();
        test.limitIsNot1To6();
        test.limitBeforeIsReturned();
        test.limitBindsTheLengths();
        test.headerIsNot0To200();
        test.symbolIsNot0To20();
        test.refusedPricesTakeNeither();
        test.pricesTellWhetherOneIsAnother();
        test.pricesAtTheirEndsCount();
        test.greatestIsNot1To80();
        test.greatestBeforeIsReturned();
        test.greatestBindsTheBlocks();
        test.boundary.finish("SettingsBoundaryTest");
    }

    /** "IllegalArgumentException if limit is not 1 to 6". */
    private void limitIsNot1To6() {
        boundary.about("Promise 8, limit is not 1 to 6");
        for (int limit : new int[] {0, -1, 7, 8, LEAST, MOST}) {
            boundary.refusesEverywhere("setLimit(" + limit + ")", coder -> coder.setLimit(limit), Boundary.ARGUMENT);
        }
        for (int limit = 1; limit <= 6; limit++) {
            int right = limit;
            boundary.changes("setLimit(" + limit + ")", () -> Boundary.text("2102"), coder -> coder.setLimit(right), 5,
                () -> Boundary.withSettings("2102", right, 20, 4, 80));
        }
    }

    /** "Returns the limit before". */
    private void limitBeforeIsReturned() {
        boundary.about("Promise 8, the limit before");
        BlockCoder coder = new BlockCoder();
        int before = 5;
        for (int limit : new int[] {1, 6, 6, 2, 1, 1, 5, 3, 4}) {
            boundary.same("setLimit(" + limit + ")", coder.setLimit(limit), before);
            before = limit;
        }
        boundary.same("a refused one", Check.answerOf(() -> coder.setLimit(7)), Boundary.ARGUMENT);
        boundary.same("after a refused one", coder.setLimit(4), 4);
    }

    /** "gives a length, 1 to L": the least and the greatest limit show in the lengths. */
    private void limitBindsTheLengths() {
        boundary.about("Promise 8, the limit binds the lengths");
        boundary.same("limit 6", Boundary.lengthsOf(Boundary.planned(Boundary.DEEP, 6, 200, 0), 0), "6654321");
        boundary.same("limit 5", Boundary.lengthsOf(Boundary.planned(Boundary.DEEP, 5, 200, 0), 0), "5543222");
        boundary.same("limit 3", Boundary.lengthsOf(Boundary.planned(Boundary.DEEP, 3, 200, 0), 0), "3333332");
        boundary.same("limit 1", Boundary.lengthsOf(Boundary.planned("0001", 1, 200, 0), 0), "11");
        boundary.asks("limit 1, three symbols", () -> Boundary.withSettings("012", 1, 20, 4, 80),
            coder -> coder.costOf(0, 3), -1);
        boundary.asks("limit 2, three symbols", () -> Boundary.withSettings("012", 2, 20, 4, 80),
            coder -> coder.costOf(0, 3), 20 + 12 + 5);
    }

    /** "IllegalArgumentException if header is not 0 to 200". */
    private void headerIsNot0To200() {
        boundary.about("Promise 9, header is not 0 to 200");
        for (int header : new int[] {-1, 201, LEAST, MOST}) {
            boundary.refusesEverywhere("setPrices(" + header + ", 4)", coder -> coder.setPrices(header, 4), Boundary.ARGUMENT);
            boundary.refusesEverywhere("setPrices(" + header + ", 0)", coder -> coder.setPrices(header, 0), Boundary.ARGUMENT);
            boundary.refusesEverywhere("setPrices(" + header + ", 21)", coder -> coder.setPrices(header, 21), Boundary.ARGUMENT);
        }
        for (int header : new int[] {0, 1, 199, 200}) {
            boundary.changes("setPrices(" + header + ", 4)", () -> Boundary.text("2102"),
                coder -> coder.setPrices(header, 4), true, () -> Boundary.withSettings("2102", 5, header, 4, 80));
        }
    }

    /** ".. or symbol is not 0 to 20". */
    private void symbolIsNot0To20() {
        boundary.about("Promise 9, symbol is not 0 to 20");
        for (int symbol : new int[] {-1, 21, LEAST, MOST}) {
            boundary.refusesEverywhere("setPrices(20, " + symbol + ")", coder -> coder.setPrices(20, symbol), Boundary.ARGUMENT);
            boundary.refusesEverywhere("setPrices(0, " + symbol + ")", coder -> coder.setPrices(0, symbol), Boundary.ARGUMENT);
            boundary.refusesEverywhere("setPrices(200, " + symbol + ")", coder -> coder.setPrices(200, symbol), Boundary.ARGUMENT);
        }
        for (int symbol : new int[] {0, 1, 19, 20}) {
            boundary.changes("setPrices(20, " + symbol + ")", () -> Boundary.text("2102"),
                coder -> coder.setPrices(20, symbol), true, () -> Boundary.withSettings("2102", 5, 20, symbol, 80));
        }
    }

    /** "A method that throws an exception changes nothing": neither does the price that is right. */
    private void refusedPricesTakeNeither() {
        boundary.about("Promise 9, a refused call takes neither price");
        BlockCoder coder = Boundary.text("5");
        boundary.same("symbol is wrong", Check.answerOf(() -> coder.setPrices(7, 21)), Boundary.ARGUMENT);
        boundary.same("the header's stays", coder.costOf(0, 1), 25);
        boundary.same("header is wrong", Check.answerOf(() -> coder.setPrices(201, 7)), Boundary.ARGUMENT);
        boundary.same("the symbol's stays", coder.costOf(0, 1), 25);
        boundary.same("both as before", coder.setPrices(20, 4), false);
    }

    /** "Returns whether one of them is another one than before". */
    private void pricesTellWhetherOneIsAnother() {
        boundary.about("Promise 9, whether one is another");
        Boundary.Scene scene = () -> Boundary.withSettings("2102", 5, 8, 9, 80);
        boundary.changes("none", scene, coder -> coder.setPrices(8, 9), false, scene);
        boundary.changes("the header's", scene, coder -> coder.setPrices(7, 9), true,
            () -> Boundary.withSettings("2102", 5, 7, 9, 80));
        boundary.changes("the symbol's", scene, coder -> coder.setPrices(8, 10), true,
            () -> Boundary.withSettings("2102", 5, 8, 10, 80));
        boundary.changes("both", scene, coder -> coder.setPrices(9, 8), true,
            () -> Boundary.withSettings("2102", 5, 9, 8, 80));
        boundary.changes("both, with the same sum", scene, coder -> coder.setPrices(10, 7), true,
            () -> Boundary.withSettings("2102", 5, 10, 7, 80));
        boundary.changes("the second time", scene, coder -> coder.setPrices(0, 0) ^ coder.setPrices(0, 0), true,
            () -> Boundary.withSettings("2102", 5, 0, 0, 80));
    }

    /** The cost of a block with the least and the greatest prices. */
    private void pricesAtTheirEndsCount() {
        boundary.about("Promise 9, prices at their ends");
        for (int header : new int[] {0, 1, 199, 200}) {
            for (int symbol : new int[] {0, 1, 19, 20}) {
                Boundary.Scene scene = () -> Boundary.planned("5", 5, header, symbol);
                boundary.asks(header + ", " + symbol, scene, coder -> coder.cost(), header + symbol + 1);
                boundary.asks(header + ", " + symbol, scene, coder -> coder.costOf(0, 1), header + symbol + 1);
                boundary.asks(header + ", " + symbol + ", 16 symbols", () -> Boundary.withSettings(Boundary.FULL, 4, header, symbol, 80),
                    coder -> coder.costOf(0, 80), header + 16 * symbol + 320);
            }
        }
    }

    /** "IllegalArgumentException if size is not 1 to 80". */
    private void greatestIsNot1To80() {
        boundary.about("Promise 10, size is not 1 to 80");
        for (int size : new int[] {0, -1, 81, LEAST, MOST}) {
            boundary.refusesEverywhere("setGreatest(" + size + ")", coder -> coder.setGreatest(size), Boundary.ARGUMENT);
        }
        for (int size : new int[] {1, 2, 79, 80}) {
            boundary.changes("setGreatest(" + size + ")", () -> Boundary.text("2102"), coder -> coder.setGreatest(size), 80,
                () -> Boundary.withSettings("2102", 5, 20, 4, size));
        }
    }

    /** "Returns the size before". */
    private void greatestBeforeIsReturned() {
        boundary.about("Promise 10, the size before");
        BlockCoder coder = new BlockCoder();
        int before = 80;
        for (int size : new int[] {1, 80, 80, 2, 1, 1, 79}) {
            boundary.same("setGreatest(" + size + ")", coder.setGreatest(size), before);
            before = size;
        }
        boundary.same("a refused one", Check.answerOf(() -> coder.setGreatest(81)), Boundary.ARGUMENT);
        boundary.same("after a refused one", coder.setGreatest(5), 79);
    }

    /** "splits the text into blocks, none of which is .. greater than the greatest size". */
    private void greatestBindsTheBlocks() {
        boundary.about("Promise 10, the greatest size binds the blocks");
        starts("one less than the text", 7, 6, "0 6");
        starts("as great as the text", 7, 7, "0");
        starts("one more than the text", 7, 8, "0");
        starts("1", 7, 1, "0 1 2 3 4 5 6");
        starts("79 of 80", 80, 79, "0 79");
        starts("80 of 80", 80, 80, "0");
        starts("a half", 80, 40, "0 40");
        starts("less than a half", 80, 39, "0 39 78");
        starts("1 of 1", 1, 1, "0");
        starts("1 of none", 0, 1, "");
        BlockCoder coder = Boundary.withSettings("9".repeat(80), 5, 20, 4, 1);
        boundary.same("80 blocks", coder.plan(), 80);
        boundary.same("the last block", coder.start(79), 79);
    }

    private void starts(String name, int places, int greatest, String due) {
        BlockCoder coder = Boundary.withSettings("9".repeat(places), 5, 20, 4, greatest);
        boundary.same(name, Boundary.startsOf(coder), due);
    }
}
