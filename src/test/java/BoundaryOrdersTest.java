/** Boundary cases of promises 20 to 26: orders, swaps, stops, who is asked, hours, two, odds. */
public final class BoundaryOrdersTest extends Boundary {
    private static final String SIX = "p00;p00;p00;p00;p00;p00;";
    /** By night row 0 tips 8 at once, and each one behind a round later; the last can not. */
    private static final String WAVE = "p10;p00;p00;p00;p00;p00;p00;p00;";
    /** Seven that look round and tip 9 each. */
    private static final String SEVEN_LOOK = "p39;p39;p39;p39;p39;p39;p39;p30;";

    public static void main(String[] args) throws IllegalAccessException {
        runAll(BoundaryOrdersTest.class);
    }

    // ---- promise 20

    static void p20NFrom0To9() {
        asksBoth(by("p32;p20;h12;"), "order(n, -1)", (x, v) -> x.order(v, -1), 0, 0, 9, 2);
        refusesOutside(by("p32;p20;h12;"), "order(n, -1)", 0, 9, (x, v) -> x.order(v, -1), REFUSED_1);
        refusesOutside(by("p32;p20;h12;"), "order(n, 0)", 0, 9, (x, v) -> x.order(v, 0), REFUSED_1);
    }

    static void p20RowFromMinus1() {
        asksBoth(by("p32;p20;h12;"), "order(1, row)", (x, v) -> x.order(1, v), -1, 2, 1, 0);
        asks(by("p32;p20;h12;"), "order(1, 0)", x -> x.order(1, 0), 1);
        refusesOutside(by("p32;p20;h12;"), "order(1, row)", -1, 1, (x, v) -> x.order(1, v), REFUSED_1);
    }

    static void p20SixAtMost() {
        asks(by(SIX), "six", x -> x.order(9, 5), 5);
        asks(by(SIX), "six", x -> x.order(9, -1), 0);
        asks(by(SIX + "p00;"), "seven", x -> x.order(9, 5), REFUSED_3);
        asks(by(SIX + "p00;"), "seven", x -> x.order(9, -1), REFUSED_3);
        asks(by(EIGHT), "eight", x -> x.order(0, 7), REFUSED_3);
    }

    static void p20OutOfRangeGoesAheadOfTooMany() {
        asks(by(SIX + "p00;"), "10 rounds", x -> x.order(10, 0), REFUSED_1);
        asks(by(SIX + "p00;"), "row 7 of seven", x -> x.order(9, 7), REFUSED_1);
        asks(by(SIX + "p00;"), "row 6 of seven", x -> x.order(9, 6), REFUSED_3);
        asks(by(SIX + "p00;"), "row -2", x -> x.order(9, -2), REFUSED_1);
    }

    static void p20NobodyAndOneAlone() {
        asks(NOBODY, "JOY of nobody", x -> x.order(9, -1), 0);
        asks(NOBODY, "nobody's row", x -> x.order(9, 0), REFUSED_1);
        asks(by("p29;"), "JOY of one", x -> x.order(9, -1), 0);
        asks(by("p29;"), "one", x -> x.order(9, 0), 0);
        asks(by("p29;"), "no other", x -> x.order(9, 1), REFUSED_1);
    }

    static void p20OfSeveralTheFirst() {
        for (int row = 0; row < 6; row++) {
            int one = row;
            asks(by(SIX), "all alike", x -> x.order(9, one), row);
        }
        // A TALL one ahead of a CHILD is best; of the CHILDREN the first by number is the next.
        asks(by("p32;p32;p20;h12;"), "row 0", x -> x.order(1, 0), 2);
        asks(by("p32;p32;p20;h12;"), "row 1", x -> x.order(1, 1), 0);
        asks(by("p32;p32;p20;h12;"), "row 2", x -> x.order(1, 2), 1);
    }

    static void p20TheLastOfAllOrders() {
        // SLEEPER 10, BABY 0, TALL 2 4 6, POLITE: 30 + 0 + 10 + 8 + 4 - 6; only from the last to the first.
        Making last = by("p51;p22;p27;p29;p61;p18;");
        asks(last, "JOY", x -> x.order(9, -1), 46);
        for (int row = 0; row < 6; row++) {
            int one = row;
            asks(last, "row " + row, x -> x.order(9, one), 5 - row);
        }
    }

    static void p20FromTips0() {
        asks(by("p22;p60;t010;"), "10 now, none behind 0 rounds", x -> x.order(0, -1), 0);
        asks(by("p22;p60;t010;"), "2 behind a round", x -> x.order(1, -1), 4);
    }

    static void p20BlocksStayWithRows() {
        asks(by("p32;p20;h12;"), "no block", x -> x.order(1, -1), 2);
        asks(by("p32;p20;h12;b0;"), "row 0, whoever sits there", x -> x.order(1, -1), 0);
        asks(by("p32;p20;h12;b1;"), "row 1, whoever sits there", x -> x.order(1, -1), 2);
        asks(by("p32;p20;h12;b1;"), "the tall one ahead", x -> x.order(1, 0), 1);
    }

    static void p20TripNoMatter() {
        asks(late("p32;p20;h12;", 999), "at 999", x -> x.order(9, -1), 2);
    }

    // ---- promise 21

    static void p21NFrom0To60() {
        asksBoth(by("p32;p20;h12;"), "swap", (x, v) -> x.swap(v), 0, -4, 60, 1);
        asks(by("p32;p20;h12;"), "1", x -> x.swap(1), 1);
        refusesOutside(by("p32;p20;h12;"), "swap", 0, 60, (x, v) -> x.swap(v), -1);
    }

    static void p21MoreThanAsTheySit() {
        asks(by("p00;p00;"), "as much", x -> x.swap(1), -4);
        asks(by("p20;p32;h12;"), "less", x -> x.swap(1), -4);
        asks(by("p30;p20;h12;"), "more", x -> x.swap(1), 1);
    }

    static void p21AsTheySitBehindNRoundsToo() {
        // They have 2 as they sit; two children alike who change places leave 2 of it.
        asks(by("p20;p32;p32;h12;"), "as much, above 0", x -> x.swap(1), -4);
        // They have -3 as they sit; the sitter ahead of all has 0 of it.
        asks(by("p33;p00;p31;h12;"), "0, more than below 0", x -> x.swap(1), 1);
    }

    static void p21NobodyAndOneAlone() {
        asks(NOBODY, "nobody", x -> x.swap(60), -4);
        asks(by("p29;"), "one", x -> x.swap(60), -4);
    }

    static void p21OfSeveralTheFirst() {
        // TALL CHILD CHILD TALL have 0; 1 and 3, and 2 and 3, make 2 of it.
        asks(by("p20;p32;p32;p20;h12;"), "1 and 3 ahead of 2 and 3", x -> x.swap(1), 13);
    }

    static void p21TheLastTwoOfEight() {
        // All rows ahead are blocked: a tall one in row 6, ahead of a child, has 2.
        asks(by("p30;p30;p30;p30;p30;p30;p30;p20;b0;b1;b2;b3;b4;b5;"), "6 and 7", x -> x.swap(1), 67);
    }

    static void p21FromTips0() {
        // As they sit now they have 10, from TIPS 0 nobody has any behind 0 rounds.
        asks(by("p00;p60;t010;"), "0 rounds", x -> x.swap(0), -4);
        // As they sit now they have -5, from TIPS 0 they have 0 both ways.
        asks(by("p30;p00;t005;"), "0 rounds", x -> x.swap(0), -4);
    }

    // ---- promise 22

    static void p22NFrom1To60() {
        asksBoth(by(WAVE), "stops", (x, v) -> x.stops(v), 1, 1, 60, 1);
        refusesOutside(by(WAVE), "stops", 1, 60, (x, v) -> x.stops(v), -1);
    }

    static void p22NoneAtAll() {
        asks(NOBODY, "nobody", x -> x.stops(1), 0);
        asks(by("p30;p00;"), "a child of 0", x -> x.stops(1), 0);
        asks(by("p31;p00;"), "a child of 1", x -> x.stops(1), 1);
        asks(by("p31;p00;b0;"), "blocked as it is", x -> x.stops(1), 0);
    }

    static void p22AllButTheLast() {
        asks(by("p31;p31;p31;p31;p31;p31;p31;p31;"), "seven children", x -> x.stops(60), 127);
        asks(by("p31;p31;p31;p30;p31;p31;p31;p31;"), "six children", x -> x.stops(60), 119);
    }

    static void p22OfSeveralTheLeast() {
        asks(by("p00;p00;p30;h12;t008;"), "row 0 or row 1, behind 1 round", x -> x.stops(1), 1);
        asks(by("p00;p00;p30;h12;t008;"), "none, behind 2 rounds", x -> x.stops(2), 0);
    }

    static void p22FewestAheadOfLeast() {
        // Row 2 alone stops it, though rows 0 and 1 together are a number as low as 3.
        asks(by("p00;p00;p31;p00;t008;t108;h12;"), "row 2 behind 3 rounds", x -> x.stops(3), 4);
        asks(by("p31;p31;p30;p00;"), "rows 0 and 1", x -> x.stops(3), 3);
    }

    // ---- promise 23

    static void p23Nobody() {
        asks(NOBODY, "0", x -> x.ask(0), -4);
        asks(NOBODY, "60", x -> x.ask(60), -4);
        asks(by("p00;"), "one alone", x -> x.ask(60), 0);
    }

    static void p23NFrom0To60() {
        // Whoever behind the sleeper is asked, 24 less 8 are had behind 60 rounds; without him none.
        asksBoth(by(WAVE), "ask", (x, v) -> x.ask(v), 0, 0, 60, 1);
        refusesOutside(by(WAVE), "ask", 0, 60, (x, v) -> x.ask(v), -1);
    }

    static void p23OfSeveralTheLeast() {
        asks(by("p00;p00;p00;"), "all alike", x -> x.ask(1), 0);
        asks(by("p00;p31;p00;"), "the child's 1 that is lost", x -> x.ask(1), 1);
        asks(by("p00;p30;p00;"), "the child's 0", x -> x.ask(1), 0);
    }

    static void p23Tips0NowAndFromThenOn() {
        asks(by("p31;p60;p31;p00;t001;t201;"), "now", x -> x.ask(0), 2);
        asks(by("p31;p60;p31;p00;"), "0 rounds on nobody tips", x -> x.ask(0), 0);
        asks(by("p31;p60;p31;p00;"), "60 rounds on", x -> x.ask(60), 2);
    }

    // ---- promise 24

    static void p24NFrom0To60() {
        asksBoth(by("p10;p29;"), "bestHour", (x, v) -> x.bestHour(v), 0, 0, 60, 6);
        refusesOutside(by("p10;p29;"), "bestHour", 0, 60, (x, v) -> x.bestHour(v), -1);
    }

    static void p24OfSeveralTheLeast() {
        asks(by("p00;p00;h12;"), "all hours alike", x -> x.bestHour(60), 0);
        asks(by("p10;p00;h12;"), "all nights alike", x -> x.bestHour(60), 0);
        asks(by("p10;p29;h12;"), "all days alike", x -> x.bestHour(60), 6);
        asks(NOBODY, "nobody", x -> x.bestHour(60), 0);
    }

    static void p24AWorthByHourWithout1Round() {
        asks(by("p10;p00;h12;t001;"), "a sleeper who tips", x -> x.bestHour(0), 0);
        asks(by("p00;p10;h12;t001;"), "a sleeper behind", x -> x.bestHour(0), 6);
    }

    // ---- promise 25

    static void p25TheLastRowHasNobodyBehind() {
        asks(by(FOUR), "the last but one", x -> x.two(2), 10);
        asks(by(FOUR), "the last", x -> x.two(3), -1);
        asks(by("p00;"), "one alone", x -> x.two(0), -1);
        asks(NOBODY, "nobody", x -> x.two(0), -1);
    }

    static void p25NoSuchRow() {
        asks(by(EIGHT), "row 0", x -> x.two(0), 11);
        asks(by(EIGHT), "row 6", x -> x.two(6), 10);
        refusesOutside(by(EIGHT), "two", 0, 6, (x, v) -> x.two(v), -1);
    }

    static void p25WhoHasNoMoreByItNeedNot() {
        asks(by("p31;p31;p00;"), "WORTH 0 and 0", x -> x.two(0), 0);
        asks(by("p31;p00;p00;"), "WORTH 0 and 1", x -> x.two(0), 1);
        asks(by("p00;p31;p00;"), "WORTH 1 and 0", x -> x.two(0), 10);
        asks(by("p00;p00;p00;"), "WORTH 1 and 1", x -> x.two(0), 11);
    }

    static void p25WhoCanNotHasNoMoreByIt() {
        asks(by("p00;p00;p00;b0;"), "the first blocked", x -> x.two(0), 1);
        asks(by("p00;p00;p00;b1;"), "the other blocked", x -> x.two(0), 10);
        asks(by("p00;p00;p00;b0;b1;"), "both blocked", x -> x.two(0), 0);
        asks(by("p00;p78;p00;"), "CAN 1", x -> x.two(0), 11);
        asks(by("p00;p79;p00;"), "CAN 0", x -> x.two(0), 1);
    }

    // ---- promise 26

    static void p26TFrom2To20() {
        asksBoth(by(SEVEN_LOOK), "below, t", (x, v) -> x.looksRound(v, 0, 1), 2, 128, 20, 1280000000L);
        refusesOutside(by(SEVEN_LOOK), "above, t", 2, 20, (x, v) -> x.looksRound(v, 0, 0), REFUSED_1);
        refusesOutside(by(SEVEN_LOOK), "below, t", 2, 20, (x, v) -> x.looksRound(v, 0, 1), REFUSED_1);
    }

    static void p26VFrom0To80() {
        asksBoth(by(SEVEN_LOOK), "above, v", (x, v) -> x.looksRound(2, v, 0), 0, 1, 80, 1);
        asksBoth(by(SEVEN_LOOK), "below, v", (x, v) -> x.looksRound(2, v, 1), 0, 128, 80, 1);
        refusesOutside(by(SEVEN_LOOK), "v", 0, 80, (x, v) -> x.looksRound(2, v, 0), REFUSED_1);
    }

    static void p26Part0And1() {
        asksBoth(by(SEVEN_LOOK), "part", (x, v) -> x.looksRound(2, 0, v), 0, 1, 1, 128);
        refusesOutside(by(SEVEN_LOOK), "part", 0, 1, (x, v) -> x.looksRound(2, 0, v), REFUSED_1);
    }

    static void p26VOrLess() {
        // 63 in all, 9 each: 62 unless nobody sees it; 54 if one does.
        asks(by(SEVEN_LOOK), "63", x -> x.looksRound(2, 63, 0), 1);
        asks(by(SEVEN_LOOK), "63", x -> x.looksRound(2, 63, 1), 1);
        asks(by(SEVEN_LOOK), "62", x -> x.looksRound(2, 62, 0), 127);
        asks(by(SEVEN_LOOK), "62", x -> x.looksRound(2, 62, 1), 128);
        asks(by(SEVEN_LOOK), "54", x -> x.looksRound(2, 54, 0), 127);
        asks(by(SEVEN_LOOK), "53", x -> x.looksRound(2, 53, 0), 15);
        asks(by(SEVEN_LOOK), "53", x -> x.looksRound(2, 53, 1), 16);
        asks(by(SEVEN_LOOK), "9", x -> x.looksRound(2, 9, 0), 1);
        asks(by(SEVEN_LOOK), "9", x -> x.looksRound(2, 9, 1), 16);
        asks(by(SEVEN_LOOK), "8", x -> x.looksRound(2, 8, 0), 1);
        asks(by(SEVEN_LOOK), "8", x -> x.looksRound(2, 8, 1), 128);
    }

    static void p26TheMostThatTheOddsCanBe() {
        asks(by(SEVEN_LOOK), "all but that nobody sees it", x -> x.looksRound(20, 62, 0), 1280000000L - 893871739L);
        asks(by(SEVEN_LOOK), "of 20 to the seventh", x -> x.looksRound(20, 62, 1), 1280000000L);
    }

    static void p26NeverAndAlways() {
        asks(by("p31;p00;"), "never 0", x -> x.looksRound(20, 0, 0), 0);
        asks(by("p31;p00;"), "never 0", x -> x.looksRound(20, 0, 1), 1);
        asks(by("p31;p00;"), "always 1", x -> x.looksRound(20, 1, 0), 1);
        asks(by("p31;p00;"), "always 1", x -> x.looksRound(20, 1, 1), 1);
        asks(NOBODY, "nobody", x -> x.looksRound(2, 0, 0), 1);
        asks(NOBODY, "nobody", x -> x.looksRound(2, 0, 1), 1);
    }

    static void p26ChildrenAndThoseUnderThemAlone() {
        for (int k = 0; k < 8; k++) {
            boolean child = k == 3 || k == 6;
            asks(by("p31;p" + k + "0;"), "KIND " + k + " behind", x -> x.looksRound(20, 0, 0), child ? 1 : 0);
            asks(by("p31;p" + k + "0;"), "KIND " + k + " behind", x -> x.looksRound(20, 0, 1), child ? 20 : 1);
        }
    }

    static void p26OneRoundFromNow() {
        asks(late("p00;p60;p60;", 999).and(x -> x.tips(0, 10)), "10 now, 0 then", x -> x.looksRound(20, 0, 0), 1);
        asks(late("p00;p60;p60;", 999).and(x -> x.tips(0, 10)), "10 now, 0 then", x -> x.looksRound(20, 0, 1), 1);
    }

    static void p26OneRoundAndNoMore() {
        // Behind 1 round the sleeper alone tips; the sitter behind him, who may see the BABY, would in the next.
        asks(by("p10;p00;p60;"), "8", x -> x.looksRound(3, 8, 1), 1);
        asks(by("p10;p00;p60;"), "7", x -> x.looksRound(3, 7, 0), 0);
        asks(by("p10;p00;p60;r01;"), "8 and 8", x -> x.looksRound(3, 8, 0), 1);
        asks(by("p10;p00;p60;r01;"), "8 and 8", x -> x.looksRound(3, 8, 1), 3);
    }

    static void p26ABlockedOneTips0AnyHow() {
        asks(by("p31;p30;"), "may tip 1", x -> x.looksRound(3, 0, 1), 3);
        asks(by("p31;p30;b0;"), "tips 0", x -> x.looksRound(3, 0, 1), 1);
    }
}
