/** Boundary cases of promises 27 to 35: what he is, rooms, told rows, trips by seeds, the image, counts. */
public final class BoundaryToldTest extends Boundary {
    private static final int[] LEAST = {-128, -32768, FAR_BELOW};
    private static final int ALL_KINDS = 0b11111111;
    private static final int ALL_FIGURES = 0b1111111111;
    /** By day SITTERS, the first of whom tips 8 now: the second tips 0, 8, 0, the others none so far. */
    private static final String THREE = "p00;p00;p00;h12;t008;";

    public static void main(String[] args) throws IllegalAccessException {
        runAll(BoundaryToldTest.class);
    }

    private static int[] alike(int many, int number, int last) {
        int[] all = new int[many];
        for (int i = 0; i < many; i++) {
            all[i] = i < many - 1 ? number : last;
        }
        return all;
    }

    // ---- promise 27

    static void p27NoSuchShelf() {
        asks(withRow(by(THREE), 0, BYTES), "shelf 0", x -> x.whatIs(0, 0, 0), ALL_KINDS);
        asks(withRow(by(THREE), 7, BYTES), "shelf 7", x -> x.whatIs(7, 0, 0), ALL_KINDS);
        refusesOtherShelves(by(THREE), "whatIs", (x, v) -> x.whatIs(v, 0, 0));
    }

    static void p27NoSuchRow() {
        Making told = withRow(by(THREE), 0, BYTES);
        asks(told, "row 2", x -> x.whatIs(0, 2, 0), ALL_KINDS);
        refusesOutside(told, "whatIs, a row", 0, 2, (x, v) -> x.whatIs(0, v, 0), -1);
        asks(withRow(NOBODY, 0, BYTES), "nobody's row", x -> x.whatIs(0, 0, 0), -1);
        asks(withRow(by(EIGHT), 0, BYTES), "row 7", x -> x.whatIs(0, 7, 1), ALL_FIGURES);
        asks(withRow(by(EIGHT), 0, BYTES), "row 8", x -> x.whatIs(0, 8, 1), -1);
    }

    static void p27What0And1() {
        Making told = withRow(by(THREE), 0, BYTES);
        asksBoth(told, "whatIs, what", (x, v) -> x.whatIs(0, 0, v), 0, ALL_KINDS, 1, ALL_FIGURES);
        refusesOutside(told, "whatIs, what", 0, 1, (x, v) -> x.whatIs(0, 0, v), -1);
    }

    static void p27NothingHeldOrNoRowOfNumbers() {
        asks(by(THREE), "nothing", x -> x.whatIs(0, 0, 0), -11);
        asks(withPerson(by(THREE), 0, 0, 0), "a person", x -> x.whatIs(0, 0, 0), -12);
        for (int sort = BYTES; sort <= INTS; sort++) {
            asks(withRow(by(THREE), 0, sort, 0, 8), "sort " + sort, x -> x.whatIs(0, 1, 0), 0b0111);
        }
    }

    static void p27RefusalsAsTheyAreTold() {
        asks(by(THREE), "nothing, and no such row", x -> x.whatIs(0, 3, 0), -1);
        asks(withPerson(by(THREE), 0, 0, 0), "a person, and what 2", x -> x.whatIs(0, 0, 2), -1);
    }

    static void p27TheLeastNumberOfTheSortIsSkipped() {
        for (int sort = BYTES; sort <= INTS; sort++) {
            int least = LEAST[sort];
            asks(withRow(by(THREE), 0, sort, least, 8), "the least", x -> x.whatIs(0, 1, 0), 0b0111);
            asks(withRow(by(THREE), 0, sort, least + 1, 8), "the next", x -> x.whatIs(0, 1, 0), 0);
            asks(withRow(by(THREE), 0, sort, -least - 1, 8), "the most", x -> x.whatIs(0, 1, 0), 0);
        }
    }

    static void p27TheLeastOfAnotherSortIsNot() {
        asks(withRow(by(THREE), 0, SHORTS, -128, 8), "-128 as a short", x -> x.whatIs(0, 1, 0), 0);
        asks(withRow(by(THREE), 0, INTS, -128, 8), "-128 as an int", x -> x.whatIs(0, 1, 0), 0);
        asks(withRow(by(THREE), 0, INTS, -32768, 8), "-32768 as an int", x -> x.whatIs(0, 1, 0), 0);
    }

    static void p27ASkippedRoundIsARoundToo() {
        asks(withRow(by(THREE), 0, BYTES, -128, -128, 2), "2 behind 2 rounds: TALL", x -> x.whatIs(0, 1, 0), 0b100);
        asks(withRow(by(THREE), 0, BYTES, -128, 2), "2 behind 1 round: none", x -> x.whatIs(0, 1, 0), 0);
    }

    static void p27NothingTold() {
        asks(withRow(by(THREE), 0, INTS), "no number", x -> x.whatIs(0, 1, 0), ALL_KINDS);
        asks(withRow(by(THREE), 0, INTS), "no number", x -> x.whatIs(0, 1, 1), ALL_FIGURES);
        asks(withRow(by(THREE), 0, INTS, FAR_BELOW), "skipped", x -> x.whatIs(0, 1, 1), ALL_FIGURES);
    }

    static void p27TheFirstNumberIsTipNow() {
        asks(withRow(by(THREE), 0, INTS, 8), "8 of 8", x -> x.whatIs(0, 0, 0), ALL_KINDS);
        asks(withRow(by(THREE), 0, INTS, 7), "7 of 8", x -> x.whatIs(0, 0, 0), 0);
        asks(withRow(by(THREE), 0, INTS, 9), "9 of 8", x -> x.whatIs(0, 0, 0), 0);
    }

    static void p27FiguresFrom0To9() {
        Making child = by("p35;p60;h12;");
        for (int f = 0; f < 10; f++) {
            asks(withRow(child, 0, BYTES, 0, f), "a child of " + f, x -> x.whatIs(0, 0, 1), 1 << f);
        }
        asks(withRow(child, 0, BYTES, 0, 10), "a child of 10", x -> x.whatIs(0, 0, 1), 0);
        asks(withRow(child, 0, BYTES, 0, -1), "a child of -1", x -> x.whatIs(0, 0, 1), 0);
        // The KIND is as it is: no FIGURE makes a SITTER in row 0 tip.
        asks(withRow(by("p05;p60;h12;"), 0, BYTES, 0, 5), "a sitter", x -> x.whatIs(0, 0, 1), 0);
    }

    static void p27KindsFrom0To7() {
        Making five = by("p05;p60;h12;");
        asks(withRow(five, 0, BYTES, 0, 5), "FIGURE 5: CHILD", x -> x.whatIs(0, 0, 0), 0b1000);
        asks(withRow(five, 0, BYTES, 0, 4), "no FIGURE but his: none", x -> x.whatIs(0, 0, 0), 0);
        asks(withRow(five, 0, BYTES, 0, 2), "TALL", x -> x.whatIs(0, 0, 0), 0b100);
        asks(withRow(five, 0, BYTES, 0, 0), "all others", x -> x.whatIs(0, 0, 0), 0b11110011);
        asks(withRow(by("p05;p60;h22;"), 0, BYTES, 0, 10), "SLEEPER by night", x -> x.whatIs(0, 0, 0), 0b10);
        asks(withRow(by("p05;p60;h21;"), 0, BYTES, 0, 10), "nobody by day", x -> x.whatIs(0, 0, 0), 0);
    }

    static void p27AHundredNumbers() {
        asks(withRow(by(THREE), 0, INTS, alike(100, 0, 0)), "none tips in the last row", x -> x.whatIs(0, 2, 0),
            ALL_KINDS);
        asks(withRow(by(THREE), 0, INTS, alike(100, 0, 1)), "but for the last", x -> x.whatIs(0, 2, 0), 0);
        asks(withRow(by(THREE), 0, INTS, alike(61, 0, 1)), "behind 60 rounds", x -> x.whatIs(0, 2, 0), 0);
    }

    static void p27TripNoMatter() {
        Making end = late("p35;p60;", 999).and(x -> x.tips(0, 0));
        asks(withRow(end, 0, BYTES, 0, 5), "at 999", x -> x.whatIs(0, 0, 1), 32);
    }

    // ---- promise 28

    static void p28Part0And1() {
        asksBoth(by(FOUR + "r03;"), "mean", (x, v) -> x.mean(v), 0, 20, 1, 1);
        refusesOutside(by(FOUR + "r03;"), "mean", 0, 1, (x, v) -> x.mean(v), REFUSED_1);
    }

    static void p28Nobody() {
        asksBoth(NOBODY, "mean of nobody", (x, v) -> x.mean(v), 0, 0, 1, 1);
        asksBoth(by("p00;"), "mean of one", (x, v) -> x.mean(v), 0, 20, 1, 1);
        asksBoth(by(EIGHT), "mean of eight", (x, v) -> x.mean(v), 0, 20, 1, 1);
        refusesOutside(NOBODY, "mean of nobody", 0, 1, (x, v) -> x.mean(v), REFUSED_1);
    }

    // ---- promise 29

    static void p29What0And1() {
        asksBoth(by(FOUR + "r03;"), "tightest", (x, v) -> x.tightest(v), 0, 1, 1, 13);
        refusesOutside(by(FOUR + "r03;"), "tightest", 0, 1, (x, v) -> x.tightest(v), -1);
    }

    static void p29Nobody() {
        asksBoth(NOBODY, "tightest of nobody", (x, v) -> x.tightest(v), 0, -4, 1, -4);
        asksBoth(by("p00;"), "tightest of one", (x, v) -> x.tightest(v), 0, 0, 1, 20);
        refusesOutside(NOBODY, "tightest of nobody", 0, 1, (x, v) -> x.tightest(v), -1);
    }

    static void p29OfSeveralTheLeast() {
        asks(by("p00;p00;p00;"), "20 each", x -> x.tightest(0), 0);
        asks(by("p00;p31;p00;p31;p00;r01;"), "19 in 2 and 4", x -> x.tightest(0), 2);
        asks(by("p00;p31;p00;p32;p00;r01;"), "19 in 2, 18 in 4", x -> x.tightest(0), 4);
        asks(by("p00;p31;p00;p32;p00;r01;"), "19 in 2, 18 in 4", x -> x.tightest(1), 18);
    }

    // ---- promise 30

    static void p30NoSuchShelf() {
        asks(withRow(by("p00;p00;"), 0, BYTES), "shelf 0", x -> x.forged(0), -4);
        asks(withRow(by("p00;p00;"), 7, BYTES), "shelf 7", x -> x.forged(7), -4);
        refusesOtherShelves(by("p00;p00;"), "forged", (x, v) -> x.forged(v));
    }

    static void p30NothingHeldOrNoRowOfNumbers() {
        asks(by("p00;p00;"), "nothing", x -> x.forged(0), -11);
        asks(withPerson(by("p00;p00;"), 0, 0, 0), "a person", x -> x.forged(0), -12);
        for (int sort = BYTES; sort <= INTS; sort++) {
            asks(withRow(by("p00;p00;"), 0, sort, 8, 1), "sort " + sort, x -> x.forged(0), 1);
        }
    }

    static void p30AboveCan() {
        Making two = by("p00;p00;p00;");
        asks(withRow(two, 0, INTS, 8, 8, 0), "8, 8, 0", x -> x.forged(0), -4);
        asks(withRow(two, 0, INTS, 9, 8, 0), "9, 8, 0", x -> x.forged(0), 0);
        asks(withRow(two, 0, INTS, 8, 9, 0), "8, 9, 0", x -> x.forged(0), 1);
        asks(withRow(two, 0, INTS, 8, 8, 1), "8, 8, 1", x -> x.forged(0), 2);
        asks(withRow(two, 0, INTS, FAR_ABOVE), "far above", x -> x.forged(0), 0);
        asks(withRow(by("p00;p60;"), 0, INTS, 10), "10 of 10", x -> x.forged(0), -4);
        asks(withRow(by("p00;p60;"), 0, INTS, 11), "11 of 10", x -> x.forged(0), 0);
        asks(withRow(by("p00;p60;b0;"), 0, INTS, 1), "blocked", x -> x.forged(0), 0);
        asks(withRow(by("p00;p60;b0;"), 0, INTS, 0), "blocked", x -> x.forged(0), -4);
    }

    static void p30Below0() {
        asks(withRow(by("p00;p00;"), 0, INTS, 0, 0), "0", x -> x.forged(0), -4);
        asks(withRow(by("p00;p00;"), 0, INTS, 0, -1), "-1", x -> x.forged(0), 1);
        for (int sort = BYTES; sort <= INTS; sort++) {
            int least = LEAST[sort];
            asks(withRow(by("p00;p00;"), 0, sort, least), "the least, which is not skipped", x -> x.forged(0), 0);
        }
    }

    static void p30NoSuchRow() {
        asks(withRow(by("p00;p00;"), 0, BYTES, 0, 0), "as many as sit there", x -> x.forged(0), -4);
        asks(withRow(by("p00;p00;"), 0, BYTES, 0, 0, 0), "one more", x -> x.forged(0), 2);
        asks(withRow(by(EIGHT), 0, BYTES, 0, 0, 0, 0, 0, 0, 0, 0), "eight", x -> x.forged(0), -4);
        asks(withRow(by(EIGHT), 0, BYTES, alike(100, 0, 0)), "a hundred", x -> x.forged(0), 8);
        asks(withRow(NOBODY, 0, BYTES, 0), "nobody", x -> x.forged(0), 0);
    }

    static void p30NothingTold() {
        asks(withRow(by("p00;p00;"), 0, BYTES), "of two", x -> x.forged(0), -4);
        asks(withRow(NOBODY, 0, BYTES), "of nobody", x -> x.forged(0), -4);
    }

    // ---- promise 31

    static void p31NoSuchShelf() {
        asks(withRow(by(FOUR), 0, BYTES), "shelf 0", x -> x.judge(0), -4);
        asks(withRow(by(FOUR), 7, BYTES), "shelf 7", x -> x.judge(7), -4);
        refusesOtherShelves(by(FOUR), "judge", (x, v) -> x.judge(v));
    }

    static void p31NothingHeldOrNoRowOfNumbers() {
        asks(by(FOUR), "nothing", x -> x.judge(0), -11);
        asks(withPerson(by(FOUR), 0, 0, 0), "a person", x -> x.judge(0), -12);
        for (int sort = BYTES; sort <= INTS; sort++) {
            asks(withRow(by(FOUR), 0, sort, 0, 10, 11, 12, 12), "sort " + sort, x -> x.judge(0), -4);
        }
    }

    static void p31TheFirstThatIsNotSo() {
        asks(withRow(by(FOUR), 0, INTS, 1, 10, 11, 12), "behind 0", x -> x.judge(0), 0);
        asks(withRow(by(FOUR), 0, INTS, -1, 10, 11, 12), "behind 0", x -> x.judge(0), 0);
        asks(withRow(by(FOUR), 0, INTS, 0, 9, 11, 13), "behind 1", x -> x.judge(0), 1);
        asks(withRow(by(FOUR), 0, INTS, 0, 10, 11, 13), "behind 3", x -> x.judge(0), 3);
        asks(withRow(by(FOUR), 0, INTS, 0, 10, 11, 12), "all so", x -> x.judge(0), -4);
    }

    static void p31TheLeastNumberOfTheSortIsSkipped() {
        for (int sort = BYTES; sort <= INTS; sort++) {
            int least = LEAST[sort];
            asks(withRow(by(FOUR), 0, sort, least, 10, least, 12), "the least", x -> x.judge(0), -4);
            asks(withRow(by(FOUR), 0, sort, least, least + 1), "the next", x -> x.judge(0), 1);
            asks(withRow(by(FOUR), 0, sort, least, -least - 1), "the most", x -> x.judge(0), 1);
            asks(withRow(by(FOUR), 0, sort, least, least, 12), "skipped rounds go too", x -> x.judge(0), 2);
        }
        asks(withRow(by(FOUR), 0, SHORTS, -128), "-128 as a short", x -> x.judge(0), 0);
        asks(withRow(by(FOUR), 0, INTS, -32768), "-32768 as an int", x -> x.judge(0), 0);
    }

    static void p31NothingTold() {
        asks(withRow(by(FOUR), 0, BYTES), "of four", x -> x.judge(0), -4);
        asks(withRow(NOBODY, 0, BYTES), "of nobody", x -> x.judge(0), -4);
        asks(withRow(NOBODY, 0, BYTES, 0, 0), "none of nobody", x -> x.judge(0), -4);
        asks(withRow(NOBODY, 0, BYTES, 0, 1), "1 of nobody", x -> x.judge(0), 1);
    }

    static void p31AHundredNumbersTripNoMatter() {
        asks(withRow(late(FOUR, 999), 0, BYTES, alike(100, 12, 12)), "all so", x -> x.judge(0), -4);
        asks(withRow(late(FOUR, 999), 0, BYTES, alike(100, 12, 11)), "but for the last", x -> x.judge(0), 99);
        asks(withRow(late(FOUR, 999), 0, BYTES, alike(61, 12, 11)), "behind 60 rounds", x -> x.judge(0), 60);
    }

    // ---- promise 32

    private static final String CHILD_AHEAD = "p35;p00;p00;p00;p00;p00;p00;p30;";

    /**
     * By longs, of a CHILD of 5 in row 0, SITTERS behind and a CHILD of 0 in the last row: his 5 go a row a round as
     * far as the first block.
     */
    private static long tripsByLongs(int people, int n, int z, int what) {
        long seed = z & 0xffffffffL;
        long all = 0;
        for (int i = 0; i < n; i++) {
            boolean[] blocked = new boolean[people + 1];
            for (int draw = 0; draw <= people; draw++) {
                seed = (seed * 1103515245L + 12345L) & 0xffffffffL;
                long high = seed % 2147483648L / 65536L;
                blocked[draw] = high % 5 == 0;
            }
            int rows = 0;
            while (rows < people - 1 && rows < 5 && !blocked[rows + 1]) {
                rows++;
            }
            all += what == 0 ? 5L * rows : rows;
        }
        return all;
    }

    private static long tripsByLongs(int n, int z, int what) {
        return tripsByLongs(3, n, z, what);
    }

    static void p32FiveRoundsEach() {
        for (int z = 0; z < 40; z++) {
            int seed = z;
            asks(by(CHILD_AHEAD), "eight, seed " + z, x -> x.trips(20, seed, 0), tripsByLongs(8, 20, z, 0));
            asks(by(CHILD_AHEAD), "eight, seed " + z, x -> x.trips(20, seed, 1), tripsByLongs(8, 20, z, 1));
        }
    }

    static void p32EachFromTips0() {
        // A tip of row 1 would be in row 6 behind 5 rounds.
        for (int z = 0; z < 40; z++) {
            int seed = z;
            asks(by(CHILD_AHEAD + "t108;"), "seed " + z, x -> x.trips(1, seed, 0), tripsByLongs(8, 1, z, 0));
            asks(by(CHILD_AHEAD + "t108;"), "seed " + z, x -> x.trips(1, seed, 1), tripsByLongs(8, 1, z, 1));
        }
    }

    static void p32NFrom1To20() {
        Making three = by("p35;p00;p30;");
        asks(three, "1 trip", x -> x.trips(1, 9, 0), tripsByLongs(1, 9, 0));
        asks(three, "20 trips", x -> x.trips(20, 9, 0), tripsByLongs(20, 9, 0));
        refusesOutside(three, "trips, n", 1, 20, (x, v) -> x.trips(v, 9, 0), -1);
    }

    static void p32What0And1() {
        Making three = by("p35;p00;p30;");
        asks(three, "what 0", x -> x.trips(7, 9, 0), tripsByLongs(7, 9, 0));
        asks(three, "what 1", x -> x.trips(7, 9, 1), tripsByLongs(7, 9, 1));
        refusesOutside(three, "trips, what", 0, 1, (x, v) -> x.trips(7, 9, v), -1);
    }

    static void p32Nobody() {
        asks(NOBODY, "nobody", x -> x.trips(1, 1, 0), -3);
        asks(NOBODY, "nobody", x -> x.trips(20, 1, 1), -3);
        asks(by("p30;"), "one alone", x -> x.trips(20, 1, 1), 0);
    }

    static void p32OutOfRangeGoesAheadOfNobody() {
        asks(NOBODY, "0 trips", x -> x.trips(0, 1, 0), -1);
        asks(NOBODY, "21 trips", x -> x.trips(21, 1, 0), -1);
        asks(NOBODY, "what 2", x -> x.trips(1, 1, 2), -1);
    }

    static void p32ASeedIsAnIntThatWrapsAround() {
        int[] seeds = {0, 1, -1, FAR_ABOVE, FAR_BELOW, FAR_BELOW + 1, 65535, 65536, -65536, 1073741824, 1999999999};
        for (int z : seeds) {
            for (int n = 1; n <= 20; n++) {
                int many = n;
                asks(by("p35;p00;p30;"), n + " with seed " + z, x -> x.trips(many, z, 0), tripsByLongs(n, z, 0));
                asks(by("p35;p00;p30;"), n + " with seed " + z, x -> x.trips(many, z, 1), tripsByLongs(n, z, 1));
            }
        }
    }

    static void p32WithoutTheBlocksThatAre() {
        Making told = by("p35;p00;p30;b1;t005;");
        asks(told, "blocks and tips now no matter", x -> x.trips(20, 3, 0), tripsByLongs(20, 3, 0));
        asks(late("p35;p00;p30;", 999), "trip no matter", x -> x.trips(20, 3, 0), tripsByLongs(20, 3, 0));
    }

    static void p32TheHourIsDrawnFirst() {
        // From z 0 on hour 0 is drawn and nobody blocked; then hour 18 (see PromiseTest).
        asks(by("p10;p00;p30;h12;"), "by night", x -> x.trips(1, 0, 0), 16);
        asks(by("p10;p00;p30;h12;"), "then by day", x -> x.trips(2, 0, 0), 16);
    }

    // ---- promises 33 and 34

    static void p33TripOfTheImage() {
        does(NOBODY, "of nobody", x -> x.image(), 0);
        does(late(FOUR, 999), "999", x -> x.image(), 999);
    }

    static void p33AnotherOneTakesThePlaceOfTheFirst() {
        TippedIntoTheNextLap x = late(FOUR, 5).and(y -> y.image()).made();
        x.rounds(2);
        due("the other", x.image(), 7);
        x.rounds(2);
        due("back to the other", x.restore(), 7);
    }

    static void p33NothingIsChangedByIt() {
        TippedIntoTheNextLap x = by(FOUR + "r02;").made();
        due("trip", x.image(), 2);
        dueTips("as it was", x, 8, 1, 2, 0);
        due("and goes on", x.rounds(1), 12);
    }

    static void p34ThereIsNone() {
        asks(NOBODY, "none", x -> x.restore(), -3);
        asks(late(FOUR, 5), "none", x -> x.restore(), -3);
        does(late(FOUR, 5).and(x -> x.image()), "one", x -> x.restore(), 5);
    }

    static void p34OfNobody() {
        TippedIntoTheNextLap x = NOBODY.and(y -> {
            y.image();
            y.keep(0, 1, 1, 9);
            y.comes(0);
            y.comes(0);
            y.rounds(9);
            y.blocks(1);
            y.hour(3);
        }).made();
        due("trip", x.restore(), 0);
        int[] counts = {0, 22, 0, 0, 0, 0, 0};
        for (int i = 0; i < counts.length; i++) {
            due("count(" + i + ")", x.count(i), counts[i]);
        }
        due("row 0", x.seat(0, 0), -1);
    }

    static void p34OfEight() {
        TippedIntoTheNextLap x = late("p13;p05;p29;p69;p10;p31;p42;p53;b7;b6;h03;", 999).and(y -> y.image()).made();
        int[] tips = new int[8];
        for (int i = 0; i < 8; i++) {
            tips[i] = x.seat(i, 2);
        }
        x.change(0, 7);
        x.blocks(6);
        x.hour(12);
        due("no more rounds", x.rounds(1), -3);
        due("back", x.restore(), 999);
        dueTips("back", x, tips);
        due("KIND", x.seat(0, 0), 1);
        due("FIGURE", x.seat(7, 1), 3);
        due("BLOCKED", x.count(4), 192);
        due("HOUR", x.count(1), 3);
    }

    static void p34AsOftenAsWanted() {
        TippedIntoTheNextLap x = late(FOUR, 5).and(y -> y.image()).made();
        for (int i = 0; i < 3; i++) {
            x.change(0, 1);
            due("again", x.restore(), 5);
            dueTips("again", x, 8, 1, 3, 0);
        }
    }

    static void p34ShelvesStayAsTheyAre() {
        TippedIntoTheNextLap x = withPerson(NOBODY, 0, 0, 0).and(y -> y.image()).made();
        x.keep(0, 1, 7, 9);
        x.row(1, SHORTS, 2);
        x.put(1, 1, 5);
        due("back", x.restore(), 0);
        due("a stopper", x.cost(0), 10);
        due("a row", x.element(1, 1), 5);
        x.keep(0, 0, 0, 0);
        due("back", x.restore(), 0);
        due("nothing", x.cost(0), -11);
    }

    // ---- promise 35

    static void p35WhatFrom0To6() {
        Making told = by(FOUR + "b3;h23;r03;");
        int[] counts = {4, 23, 3, 12, 8, 80, 7};
        for (int i = 0; i < counts.length; i++) {
            int what = i;
            asks(told, "count(" + i + ")", x -> x.count(what), counts[i]);
        }
        refusesOutside(told, "count", 0, 6, (x, v) -> x.count(v), -1);
        refusesOutside(NOBODY, "count", 0, 6, (x, v) -> x.count(v), -1);
    }

    static void p35TheMostOfEach() {
        Making eight = late("p10;p10;p10;p10;p10;p10;p10;p60;h23;", 999);
        int[] counts = {8, 23, 999, 6 * 8 + 10, 0, 160, 127};
        for (int i = 0; i < counts.length; i++) {
            int what = i;
            asks(eight, "count(" + i + ")", x -> x.count(what), counts[i]);
        }
        asks(by(EIGHT + "b0;b1;b2;b3;b4;b5;b6;b7;"), "all blocked", x -> x.count(4), 255);
    }
}
