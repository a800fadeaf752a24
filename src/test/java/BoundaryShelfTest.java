/** Boundary cases of promises 36 to 42: what shelves hold. */
public final class BoundaryShelfTest extends Boundary {
    private static final String SITTERS = "p00;p00;";

    public static void main(String[] args) throws IllegalAccessException {
        runAll(BoundaryShelfTest.class);
    }

    /** Shelf 0 has bytes 1 2 3, shelf 1 shorts 1 2 3, shelf 2 ints 1 2 3, shelf 3 a SITTER 5; 4 to 7 nothing. */
    private static Making filled() {
        Making rows = withRow(by(SITTERS), 0, BYTES, 1, 2, 3);
        return withPerson(withRow(withRow(rows, 1, SHORTS, 1, 2, 3), 2, INTS, 1, 2, 3), 3, 0, 5);
    }

    private static void dueRow(String when, TippedIntoTheNextLap x, int d, int... numbers) {
        for (int i = 0; i < numbers.length; i++) {
            due(when + ": thrown by element " + i, thrown(x, d, i), 0);
            if (thrown(x, d, i) == 0) {
                due(when + ": element " + i, x.element(d, i), numbers[i]);
            }
        }
        due(when + ": one more", thrown(x, d, numbers.length), 2);
    }

    // ---- promise 36

    static void p36NoSuchShelf() {
        due("shelf 0", does(NOBODY, "keep", x -> x.keep(0, 1, 3, 0), 0).cost(0), 1);
        due("shelf 7", does(NOBODY, "keep", x -> x.keep(7, 1, 3, 0), 0).cost(7), 1);
        refusesOtherShelves(filled(), "keep one", (x, v) -> x.keep(v, 1, 3, 0));
        refusesOtherShelves(filled(), "keep nothing", (x, v) -> x.keep(v, 0, 3, 0));
    }

    static void p36What0And1() {
        due("0", does(filled(), "keep", x -> x.keep(3, 0, 3, 0), 0).cost(3), -11);
        due("1", does(filled(), "keep", x -> x.keep(3, 1, 3, 0), 0).cost(3), 1);
        refusesOutside(filled(), "keep, what", 0, 1, (x, v) -> x.keep(3, v, 3, 0), -1);
    }

    static void p36KindFrom0To7() {
        int[] costs = {3, 3, 5, 1, 1, 7, 1, 10};
        for (int k = 0; k < 8; k++) {
            int kind = k;
            due("KIND " + k, does(filled(), "keep", x -> x.keep(3, 1, kind, 0), 0).cost(3), costs[k]);
        }
        refusesOutside(filled(), "keep, a KIND", 0, 7, (x, v) -> x.keep(3, 1, v, 0), -1);
    }

    static void p36FigureFrom0To9() {
        for (int f = 0; f < 10; f++) {
            int figure = f;
            due("FIGURE " + f, does(filled(), "keep", x -> x.keep(3, 1, 1, figure), 0).cost(3), 3 + f);
        }
        refusesOutside(filled(), "keep, a FIGURE", 0, 9, (x, v) -> x.keep(3, 1, 1, v), -1);
    }

    static void p36ForNothingTheOthersDoNotMatter() {
        due("far off", does(filled(), "keep", x -> x.keep(3, 0, FAR_BELOW, FAR_ABOVE), 0).cost(3), -11);
        due("next to it", does(filled(), "keep", x -> x.keep(0, 0, 8, -1), 0).cost(0), -11);
        due("of nothing", does(filled(), "keep", x -> x.keep(5, 0, -1, 10), 0).cost(5), -11);
    }

    static void p36InPlaceOfARow() {
        TippedIntoTheNextLap x = does(filled(), "keep", y -> y.keep(0, 1, 1, 2), 0);
        due("a sleeper", x.cost(0), 5);
        due("no row", x.put(0, 0, 0), -12);
    }

    // ---- promise 37

    static void p37NoSuchShelf() {
        dueRow("shelf 0", does(filled(), "row", x -> x.row(0, INTS, 1), 0), 0, 0);
        dueRow("shelf 7", does(filled(), "row", x -> x.row(7, INTS, 1), 0), 7, 0);
        refusesOtherShelves(filled(), "row", (x, v) -> x.row(v, INTS, 1));
    }

    static void p37SortFrom0To2() {
        for (int sort = BYTES; sort <= INTS; sort++) {
            int one = sort;
            dueRow("sort " + sort, does(filled(), "row", x -> x.row(3, one, 2), 0), 3, 0, 0);
        }
        refusesOutside(filled(), "row, a sort", 0, 2, (x, v) -> x.row(3, v, 1), -1);
    }

    static void p37NFrom0To100() {
        dueRow("none", does(filled(), "row", x -> x.row(0, BYTES, 0), 0), 0);
        dueRow("100", does(filled(), "row", x -> x.row(0, BYTES, 100), 0), 0, new int[100]);
        dueRow("99", does(filled(), "row", x -> x.row(0, BYTES, 99), 0), 0, new int[99]);
        asks(filled(), "101", x -> x.row(0, BYTES, 101), -1);
        asks(filled(), "far above", x -> x.row(0, BYTES, FAR_ABOVE), -1);
        asks(filled(), "-1", x -> x.row(0, BYTES, -1), -14);
        asks(filled(), "far below", x -> x.row(0, BYTES, FAR_BELOW), -14);
    }

    static void p37RefusalsAsTheyAreTold() {
        asks(filled(), "no such shelf, and below 0", x -> x.row(8, BYTES, -1), -1);
        asks(filled(), "no such sort, and below 0", x -> x.row(0, 3, -1), -1);
        asks(filled(), "no such sort, and below 0", x -> x.row(0, -1, -1), -1);
    }

    static void p37Elements0AtFirst() {
        TippedIntoTheNextLap x = does(filled(), "shorter", y -> y.row(2, INTS, 2), 0);
        dueRow("shorter", x, 2, 0, 0);
        due("longer", x.row(2, INTS, 4), 0);
        dueRow("longer", x, 2, 0, 0, 0, 0);
    }

    static void p37InPlaceOfAPerson() {
        due("no person", does(filled(), "row", x -> x.row(3, BYTES, 0), 0).cost(3), -12);
    }

    // ---- promise 38

    static void p38NoSuchShelf() {
        dueRow("shelf 0", does(filled(), "put", x -> x.put(0, 1, 9), 0), 0, 1, 9, 3);
        does(withRow(NOBODY, 7, INTS, 1), "shelf 7", x -> x.put(7, 0, 9), 0);
        refusesOtherShelves(filled(), "put", (x, v) -> x.put(v, 0, 9));
    }

    static void p38NothingHeldOrAPerson() {
        asks(filled(), "nothing", x -> x.put(4, 0, 9), -11);
        asks(filled(), "a person", x -> x.put(3, 0, 9), -12);
    }

    static void p38NoSuchPlace() {
        dueRow("place 0", does(filled(), "put", x -> x.put(1, 0, 9), 0), 1, 9, 2, 3);
        dueRow("place 2", does(filled(), "put", x -> x.put(1, 2, 9), 0), 1, 1, 2, 9);
        refusesOutside(filled(), "put, a place", 0, 2, (x, v) -> x.put(1, v, 9), -13);
        asks(withRow(NOBODY, 0, BYTES), "of no element", x -> x.put(0, 0, 9), -13);
    }

    static void p38PlaceFrom0To99() {
        Making hundred = NOBODY.and(x -> x.row(0, INTS, 100));
        due("99", does(hundred, "put", x -> x.put(0, 99, 9), 0).element(0, 99), 9);
        refusesOutside(hundred, "put, a place", 0, 99, (x, v) -> x.put(0, v, 9), -13);
    }

    static void p38RefusalsAsTheyAreTold() {
        asks(filled(), "no such shelf and place", x -> x.put(8, -1, 9), -1);
        asks(filled(), "nothing, and no such place", x -> x.put(4, -1, 9), -11);
        asks(filled(), "a person, and no such place", x -> x.put(3, -1, 9), -12);
    }

    private static void duePut(int sort, int[] numbers, int[] kept) {
        for (int i = 0; i < numbers.length; i++) {
            int number = numbers[i];
            TippedIntoTheNextLap x = does(withRow(NOBODY, 0, sort, 1), "put", y -> y.put(0, 0, number), 0);
            due(number + " in sort " + sort, x.element(0, 0), kept[i]);
        }
    }

    static void p38ABytesLowestBits() {
        duePut(BYTES, new int[] {127, 128, 255, 256, -128, -129, -256, -257, FAR_ABOVE, FAR_BELOW, 70000},
            new int[] {127, -128, -1, 0, -128, 127, 0, -1, -1, 0, 112});
    }

    static void p38AShortsLowestBits() {
        duePut(SHORTS, new int[] {128, 32767, 32768, 65535, 65536, -32768, -32769, FAR_ABOVE, FAR_BELOW, 70000},
            new int[] {128, 32767, -32768, -1, 0, -32768, 32767, -1, 0, 4464});
    }

    static void p38AnIntsBits() {
        duePut(INTS, new int[] {0, -1, 32768, 65536, FAR_ABOVE, FAR_BELOW}, new int[] {0, -1, 32768, 65536, FAR_ABOVE,
            FAR_BELOW});
    }

    // ---- promise 39

    static void p39NoSuchShelf() {
        asks(filled(), "shelf 0", x -> x.element(0, 0), 1);
        asks(withRow(NOBODY, 7, INTS, 9), "shelf 7", x -> x.element(7, 0), 9);
        refusesOutside(filled(), "thrown by element", 0, 7, (x, v) -> thrown(x, v, 0), 1);
    }

    static void p39NoRow() {
        asks(filled(), "nothing", x -> thrown(x, 4, 0), 2);
        asks(filled(), "a person", x -> thrown(x, 3, 0), 2);
        asks(filled(), "a row", x -> thrown(x, 2, 0), 0);
    }

    static void p39NoSuchPlace() {
        asksBoth(filled(), "element", (x, v) -> x.element(2, v), 0, 1, 2, 3);
        refusesOutside(filled(), "thrown by element", 0, 2, (x, v) -> thrown(x, 2, v), 2);
        asks(withRow(NOBODY, 0, BYTES), "thrown of no element", x -> thrown(x, 0, 0), 2);
    }

    static void p39NoSuchShelfGoesAheadOfNoSuchPlace() {
        asks(filled(), "thrown", x -> thrown(x, 8, -1), 1);
    }

    // ---- promise 40

    static void p40NoSuchShelf() {
        Making rows = withRow(withRow(filled(), 7, INTS, 7, 8, 9), 5, INTS, 0);
        dueRow("from 2 to 7", does(rows, "copy", x -> x.copy(2, 0, 7, 1, 2), 2), 7, 7, 1, 2);
        dueRow("from 7 to 2", does(rows, "copy", x -> x.copy(7, 0, 2, 1, 2), 2), 2, 1, 7, 8);
        refusesOtherShelves(rows, "copy from", (x, v) -> x.copy(v, 0, 7, 0, 1));
        refusesOtherShelves(rows, "copy to", (x, v) -> x.copy(7, 0, v, 0, 1));
    }

    static void p40NothingHeldOnEither() {
        asks(filled(), "from nothing", x -> x.copy(4, 0, 2, 0, 1), -11);
        asks(filled(), "to nothing", x -> x.copy(2, 0, 4, 0, 1), -11);
        asks(filled(), "from a person to nothing", x -> x.copy(3, 0, 4, 0, 1), -11);
        asks(filled(), "from nothing to a person", x -> x.copy(4, 0, 3, 0, 1), -11);
    }

    static void p40NoRowsOfOneSort() {
        asks(filled(), "bytes to shorts", x -> x.copy(0, 0, 1, 0, 1), -12);
        asks(filled(), "shorts to ints", x -> x.copy(1, 0, 2, 0, 1), -12);
        asks(filled(), "ints to bytes", x -> x.copy(2, 0, 0, 0, 1), -12);
        asks(filled(), "from a person", x -> x.copy(3, 0, 0, 0, 1), -12);
        asks(filled(), "to a person", x -> x.copy(0, 0, 3, 0, 1), -12);
        asks(filled(), "a person to himself", x -> x.copy(3, 0, 3, 0, 0), -12);
        for (int sort = BYTES; sort <= INTS; sort++) {
            int d = sort;
            does(withRow(filled(), 5, sort, 0), "sort " + sort, x -> x.copy(d, 0, 5, 0, 1), 1);
        }
    }

    static void p40NFrom0ToWhatIsThere() {
        Making rows = withRow(filled(), 5, INTS, 7, 8, 9);
        dueRow("none", does(rows, "copy", x -> x.copy(2, 0, 5, 0, 0), 0), 5, 7, 8, 9);
        dueRow("all", does(rows, "copy", x -> x.copy(2, 0, 5, 0, 3), 3), 5, 1, 2, 3);
        refusesOutside(rows, "copy, n", 0, 3, (x, v) -> x.copy(2, 0, 5, 0, v), -13);
        refusesOutside(rows, "copy from 2, n", 0, 1, (x, v) -> x.copy(2, 2, 5, 0, v), -13);
        refusesOutside(rows, "copy to 2, n", 0, 1, (x, v) -> x.copy(2, 0, 5, 2, v), -13);
    }

    static void p40NoSuchPlace() {
        Making rows = withRow(filled(), 5, INTS, 7, 8, 9);
        dueRow("from 2 to 0", does(rows, "copy", x -> x.copy(2, 2, 5, 0, 1), 1), 5, 3, 8, 9);
        dueRow("from 0 to 2", does(rows, "copy", x -> x.copy(2, 0, 5, 2, 1), 1), 5, 7, 8, 1);
        refusesOutside(rows, "copy, i", 0, 2, (x, v) -> x.copy(2, v, 5, 0, 1), -13);
        refusesOutside(rows, "copy, j", 0, 2, (x, v) -> x.copy(2, 0, 5, v, 1), -13);
        asks(rows, "a sum that wraps around", x -> x.copy(2, FAR_ABOVE, 5, 0, FAR_ABOVE), -13);
        asks(rows, "a sum that wraps around", x -> x.copy(2, 1, 5, 1, FAR_ABOVE), -13);
    }

    static void p40NoneFromTheEndOn() {
        Making rows = withRow(filled(), 5, INTS, 7, 8, 9);
        asks(rows, "none from and to the end", x -> x.copy(2, 3, 5, 3, 0), 0);
        asks(rows, "none from behind it", x -> x.copy(2, 4, 5, 0, 0), -13);
        asks(rows, "none to behind it", x -> x.copy(2, 0, 5, 4, 0), -13);
        asks(withRow(rows, 6, INTS), "none of none", x -> x.copy(6, 0, 6, 0, 0), 0);
        asks(withRow(rows, 6, INTS), "one of none", x -> x.copy(6, 0, 6, 0, 1), -13);
    }

    static void p40AHundred() {
        Making rows = NOBODY.and(x -> {
            x.row(0, SHORTS, 100);
            x.row(1, SHORTS, 100);
            x.put(0, 99, 5);
        });
        due("100", does(rows, "copy", x -> x.copy(0, 0, 1, 0, 100), 100).element(1, 99), 5);
        asks(rows, "101", x -> x.copy(0, 0, 1, 0, 101), -13);
    }

    static void p40OntoItself() {
        dueRow("to the right", does(filled(), "copy", x -> x.copy(2, 0, 2, 1, 2), 2), 2, 1, 1, 2);
        dueRow("to the left", does(filled(), "copy", x -> x.copy(2, 1, 2, 0, 2), 2), 2, 2, 3, 3);
        asks(filled(), "one too many", x -> x.copy(2, 1, 2, 0, 3), -13);
    }

    static void p40RefusalsAsTheyAreTold() {
        asks(filled(), "nothing, and no such shelf", x -> x.copy(4, 0, 8, 0, 1), -1);
        asks(filled(), "nothing, and n below 0", x -> x.copy(4, 0, 2, 0, -1), -11);
        asks(filled(), "other sorts, and n below 0", x -> x.copy(0, 0, 2, 0, -1), -12);
    }

    // ---- promise 41

    static void p41NoSuchShelf() {
        asks(withPerson(NOBODY, 0, 0, 0), "shelf 0", x -> x.cost(0), 3);
        asks(withPerson(NOBODY, 7, 0, 0), "shelf 7", x -> x.cost(7), 3);
        refusesOtherShelves(filled(), "cost", (x, v) -> x.cost(v));
    }

    static void p41NothingHeldOrARow() {
        asks(filled(), "nothing", x -> x.cost(4), -11);
        for (int sort = BYTES; sort <= INTS; sort++) {
            int d = sort;
            asks(filled(), "sort " + sort, x -> x.cost(d), -12);
        }
        asks(withRow(NOBODY, 0, BYTES), "no element", x -> x.cost(0), -12);
        asks(filled(), "a person", x -> x.cost(3), 3);
    }

    static void p41ByFigureFrom0To9() {
        for (int k = 0; k < 8; k++) {
            for (int f = 0; f < 10; f++) {
                int[] costs = {3, 3 + f, 5, 1, 1, 7, 1 + f, 10};
                asks(withPerson(NOBODY, 0, k, f), "KIND " + k + ", FIGURE " + f, x -> x.cost(0), costs[k]);
            }
        }
    }

    // ---- promise 42

    static void p42NoSuchShelf() {
        asks(withPerson(NOBODY, 0, 0, 1), "shelf 0", x -> x.toss(0), 1);
        asks(withPerson(NOBODY, 7, 0, 1), "shelf 7", x -> x.toss(7), 1);
        refusesOtherShelves(filled(), "toss", (x, v) -> x.toss(v));
    }

    static void p42NothingHeldOrARow() {
        asks(filled(), "nothing", x -> x.toss(4), -11);
        for (int sort = BYTES; sort <= INTS; sort++) {
            int d = sort;
            asks(filled(), "sort " + sort, x -> x.toss(d), -12);
        }
        asks(withRow(NOBODY, 0, BYTES), "no element", x -> x.toss(0), -12);
        asks(filled(), "a person", x -> x.toss(3), 5);
    }

    static void p42Figure0HasNone() {
        for (int k = 0; k < 8; k++) {
            boolean child = k == 3 || k == 6;
            int one = child ? -15 : k == 7 ? 210 : k == 2 ? 101 : 1;
            asks(withPerson(NOBODY, 0, k, 0), "KIND " + k + ", FIGURE 0", x -> x.toss(0), -15);
            asks(withPerson(NOBODY, 0, k, 1), "KIND " + k + ", FIGURE 1", x -> x.toss(0), one);
        }
    }

    static void p42FigureUpTo9() {
        int[] tossed = {9, 9, 109, -15, 9, 9, -15, 210};
        for (int k = 0; k < 8; k++) {
            asks(withPerson(NOBODY, 0, k, 9), "KIND " + k + ", FIGURE 9", x -> x.toss(0), tossed[k]);
        }
    }
}
