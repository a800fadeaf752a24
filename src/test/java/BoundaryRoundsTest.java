/** Boundary cases of promises 10 to 19: rounds in mind, the best, laws, prices. */
public final class BoundaryRoundsTest extends Boundary {
    /** By night row 0 tips 8 at once, and each one behind a round later; the last can not. */
    private static final String WAVE = "p10;p00;p00;p00;p00;p00;p00;p00;";

    public static void main(String[] args) throws IllegalAccessException {
        runAll(BoundaryRoundsTest.class);
    }

    // ---- promise 10

    static void p10NFrom0To60() {
        asksBoth(by(FOUR), "behind(2, n, 0)", (x, v) -> x.behind(2, v, 0), 0, 0, 60, 3);
        refusesOutside(by(FOUR), "behind(2, n, 0)", 0, 60, (x, v) -> x.behind(2, v, 0), -1);
    }

    static void p10NoSuchRow() {
        asksBoth(by(FOUR), "behind(row, 1, 1)", (x, v) -> x.behind(v, 1, 1), 0, 28, 3, 18);
        refusesOutside(by(FOUR), "behind(row, 1, 1)", 0, 3, (x, v) -> x.behind(v, 1, 1), -1);
        asks(NOBODY, "nobody's row", x -> x.behind(0, 0, 0), -1);
    }

    static void p10What0And1() {
        asksBoth(by(FOUR), "behind(0, 1, what)", (x, v) -> x.behind(0, 1, v), 0, 8, 1, 28);
        refusesOutside(by(FOUR), "behind(0, 1, what)", 0, 1, (x, v) -> x.behind(0, 1, v), -1);
    }

    static void p10TripNoMatter() {
        Making end = late(WAVE, 999).and(x -> {
            x.tips(0, 0);
            x.tips(1, 3);
        });
        asks(end, "rounds(1) at 999", x -> x.rounds(1), -3);
        asks(end, "1 in mind at 999", x -> x.behind(1, 1, 0), 0);
        asks(end, "60 in mind at 999", x -> x.behind(1, 60, 0), 8);
    }

    static void p10The0ThRoundIsNow() {
        Making told = by("p00;p60;p00;t010;t107;");
        asks(told, "0 on", x -> x.behind(0, 0, 0), 10);
        asks(told, "0 on", x -> x.behind(1, 0, 1), 17);
        asks(told, "1 on", x -> x.behind(0, 1, 0), 0);
    }

    // ---- promise 11

    static void p11NothingStirsFromNowOn() {
        asks(NOBODY, "nobody", x -> x.still(), 0);
        asks(by("p10;"), "one alone", x -> x.still(), 0);
        asks(by("p00;p00;"), "who wants none", x -> x.still(), 0);
        asks(by("p00;p00;t001;"), "who will not tip any more", x -> x.still(), 1);
        asks(by(WAVE).and(x -> x.rounds(7)), "behind all that stirs", x -> x.still(), 0);
    }

    static void p11ARowMoreIsARoundMore() {
        for (int people = 1; people <= 8; people++) {
            asks(by(WAVE.substring(0, 4 * people)), people + " of them", x -> x.still(), people - 1);
        }
    }

    static void p11TripNoMatter() {
        asks(late(WAVE, 999).and(x -> x.tips(0, 0)), "at 999", x -> x.still(), 7);
    }

    static void p11WhatComesByMoreAndGoesAgainStirs() {
        // SITTERS upright but the first: his 8 go back row by row, one round each.
        asks(by(EIGHT).and(x -> x.tips(0, 8)), "a tip that goes through", x -> x.still(), 7);
        asks(by(EIGHT).and(x -> x.tips(6, 8)), "a tip in the last row that can", x -> x.still(), 1);
    }

    // ---- promise 12

    static void p12NoSuchRow() {
        asksBoth(by(WAVE), "run(row, 7)", (x, v) -> x.run(v, 7), 0, 7, 7, 0);
        refusesOutside(by(WAVE), "run(row, 7)", 0, 7, (x, v) -> x.run(v, 7), -1);
        asks(by("p10;p00;"), "row 2 of two", x -> x.run(2, 7), -1);
        asks(NOBODY, "nobody's row", x -> x.run(0, 0), -1);
    }

    static void p12NFrom0To60() {
        asksBoth(by(WAVE), "run(0, n)", (x, v) -> x.run(0, v), 0, 0, 60, 7);
        refusesOutside(by(WAVE), "run(0, n)", 0, 60, (x, v) -> x.run(0, v), -1);
    }

    static void p12ATipOf1IsOneAbove0() {
        asks(by("p31;p31;p00;"), "1 and 1", x -> x.run(0, 1), 2);
        asks(by("p31;p30;p31;p00;"), "1 and 0", x -> x.run(0, 1), 1);
        asks(by("p31;p30;p31;p00;"), "from the 0 on", x -> x.run(1, 1), 0);
        asks(by("p31;p30;p31;p00;"), "behind the 0", x -> x.run(2, 1), 1);
    }

    // ---- promise 13

    static void p13NobodyTips() {
        asks(by(WAVE), "the row", x -> x.longest(0, 0), -4);
        asks(by(WAVE), "how many", x -> x.longest(0, 1), 0);
        asks(by("p30;p00;"), "a child of 0", x -> x.longest(1, 0), -4);
        asks(by("p31;p00;"), "a child of 1", x -> x.longest(1, 0), 0);
        asks(by("p31;p00;"), "a child of 1", x -> x.longest(1, 1), 1);
        asks(NOBODY, "nobody", x -> x.longest(60, 0), -4);
        asks(NOBODY, "nobody", x -> x.longest(60, 1), 0);
    }

    static void p13AllButTheLast() {
        asks(by(WAVE), "the row", x -> x.longest(7, 0), 0);
        asks(by(WAVE), "how many", x -> x.longest(7, 1), 7);
        asks(by(WAVE), "a round less", x -> x.longest(6, 1), 6);
    }

    static void p13OfSeveralTheLeast() {
        Making one = by("p30;p31;p30;p31;p00;r01;");
        asks(one, "as long: the first", x -> x.longest(0, 0), 1);
        Making two = by("p30;p31;p30;p31;p31;p00;r01;");
        asks(two, "one longer: the other", x -> x.longest(0, 0), 3);
        asks(two, "how many", x -> x.longest(0, 1), 2);
    }

    static void p13NFrom0To60() {
        asksBoth(by(WAVE), "longest(n, 1)", (x, v) -> x.longest(v, 1), 0, 0, 60, 7);
        refusesOutside(by(WAVE), "longest(n, 0)", 0, 60, (x, v) -> x.longest(v, 0), -1);
        refusesOutside(by(WAVE), "longest(n, 1)", 0, 60, (x, v) -> x.longest(v, 1), -1);
    }

    static void p13What0And1() {
        asksBoth(by(WAVE), "longest(2, what)", (x, v) -> x.longest(2, v), 0, 0, 1, 2);
        refusesOutside(by(WAVE), "longest(2, what)", 0, 1, (x, v) -> x.longest(2, v), -1);
    }

    // ---- promise 14

    static void p14LessThanAsItIs() {
        asks(by("p30;p00;"), "as much", x -> x.began(1), -4);
        asks(by("p31;p00;"), "one less", x -> x.began(1), 0);
        asks(by("p31;p00;b0;"), "it is blocked", x -> x.began(1), -4);
        asks(by("p00;p31;"), "the last tips none", x -> x.began(1), -4);
    }

    static void p14OfSeveralTheLeast() {
        asks(by("p30;p31;p31;p00;"), "as much less", x -> x.began(1), 1);
        asks(by("p30;p31;p32;p00;"), "one more less", x -> x.began(1), 2);
    }

    static void p14NFrom0To60() {
        asksBoth(by(WAVE), "began", (x, v) -> x.began(v), 0, -4, 60, 0);
        asks(by(WAVE), "1", x -> x.began(1), 0);
        refusesOutside(by(WAVE), "began", 0, 60, (x, v) -> x.began(v), -1);
    }

    static void p14BlockedFromNowOnTips0Now() {
        asks(by("p00;p00;t001;"), "now", x -> x.began(0), 0);
        asks(by("p00;p00;t001;"), "a round on nobody tips anyhow", x -> x.began(1), -4);
    }

    static void p14Nobody() {
        asks(NOBODY, "0", x -> x.began(0), -4);
        asks(NOBODY, "60", x -> x.began(60), -4);
    }

    // ---- promise 15

    static void p15NFrom0To60() {
        // Behind 60 rounds the seven of them tip 8: 3 * 8 and - 1 * 8 of the last.
        asksBoth(by(WAVE), "lost", (x, v) -> x.lost(v), 0, 0, 60, 16);
        refusesOutside(by(WAVE), "lost", 0, 60, (x, v) -> x.lost(v), REFUSED_1);
    }

    static void p15MayBeBelow0() {
        asks(by("p31;p00;"), "1 lost by a sitter", x -> x.lost(1), -1);
        asks(by("p30;p00;"), "nothing lost", x -> x.lost(1), 0);
        asks(by("p39;p27;"), "the most that TALL 7 leaves: 2, of 4 each", x -> x.lost(1), -8);
    }

    static void p15Nobody() {
        asks(NOBODY, "0", x -> x.lost(0), 0);
        asks(NOBODY, "60", x -> x.lost(60), 0);
    }

    // ---- promise 16

    static void p16RowFromMinus1() {
        asksBoth(by(FOUR), "best", (x, v) -> x.best(v), -1, 66, 3, 0);
        asks(by(FOUR), "best(0)", x -> x.best(0), 8);
        asks(by(FOUR), "best(2)", x -> x.best(2), 10);
        refusesOutside(by(FOUR), "best", -1, 3, (x, v) -> x.best(v), REFUSED_1);
        asks(by(EIGHT), "row 7", x -> x.best(7), 0);
        asks(by(EIGHT), "row 8", x -> x.best(8), REFUSED_1);
    }

    static void p16Nobody() {
        asks(NOBODY, "JOY", x -> x.best(-1), 0);
        asks(NOBODY, "row 0", x -> x.best(0), REFUSED_1);
    }

    static void p16AsMuchJoyByLeastTips() {
        asks(by("p00;p00;t005;"), "WORTH 1 and 1", x -> x.best(0), 0);
        asks(by("p22;p00;"), "WORTH 2 and 1", x -> x.best(0), 8);
        asks(by("p22;p00;"), "WORTH 2 and 1: JOY", x -> x.best(-1), 8);
        asks(by("p00;p22;"), "WORTH 1 and 2", x -> x.best(0), 0);
        asks(by("p21;p00;"), "WORTH 1 and 1", x -> x.best(0), 0);
    }

    static void p16NoMoreThanCan() {
        asks(by("p29;p78;"), "CAN 1", x -> x.best(0), 1);
        asks(by("p29;p79;"), "CAN 0", x -> x.best(0), 0);
        asks(by("p29;p60;"), "CAN 10", x -> x.best(0), 10);
        asks(by("p29;p60;b0;"), "blocked", x -> x.best(0), 0);
        asks(by("p29;p60;b0;"), "blocked: JOY", x -> x.best(-1), 0);
    }

    static void p16ByHourAsItIs() {
        asks(by("p10;p00;h21;"), "21", x -> x.best(0), 0);
        asks(by("p10;p00;h22;"), "22", x -> x.best(0), 8);
        asks(by("p10;p00;h05;"), "5", x -> x.best(-1), 16);
        asks(by("p10;p00;h06;"), "6", x -> x.best(-1), 0);
    }

    // ---- promise 17

    static void p17LawFromMinus1To2() {
        asksBoth(by(FOUR), "laws", (x, v) -> x.laws(v), -1, 2, 2, 62);
        asks(by(FOUR), "laws(0)", x -> x.laws(0), 27);
        asks(by(FOUR), "laws(1)", x -> x.laws(1), 0);
        refusesOutside(by(FOUR), "laws", -1, 2, (x, v) -> x.laws(v), REFUSED_1);
    }

    static void p17OfSeveralTheLeast() {
        asks(by("p00;p00;"), "all 0", x -> x.laws(-1), 0);
        asks(by("p10;p00;"), "law 0 as law 2", x -> x.laws(-1), 0);
        // CHILD 9 with 2 takes 4 from STOPPER 4; who can tip 4 and wants none gets 8 - 4 by law 2.
        Making even = by("p39;p74;p20;");
        asks(even, "law 0", x -> x.laws(0), -4);
        asks(even, "law 1", x -> x.laws(1), 0);
        asks(even, "law 2", x -> x.laws(2), 0);
        asks(even, "law 1 as law 2", x -> x.laws(-1), 1);
        asks(by("p38;p76;p20;"), "law 2 has more", x -> x.laws(2), 5);
        asks(by("p38;p76;p20;"), "law 2 has more", x -> x.laws(-1), 2);
    }

    static void p17Nobody() {
        for (int law = -1; law <= 2; law++) {
            int one = law;
            asks(NOBODY, "laws(" + law + ")", x -> x.laws(one), 0);
        }
    }

    static void p17EightToo() {
        asks(by(WAVE), "as all want", x -> x.laws(0), 16);
        asks(by(WAVE), "none", x -> x.laws(1), 0);
        asks(by(WAVE), "as far as each can", x -> x.laws(2), 16);
        asks(by(WAVE), "most", x -> x.laws(-1), 0);
    }

    static void p17Behind60RoundsTripNoMatter() {
        asks(late(WAVE, 999).and(x -> x.tips(0, 0)), "law 0", x -> x.laws(0), 16);
    }

    // ---- promise 18

    static void p18TheLastRowHasNobodyBehind() {
        asks(by(FOUR + "r03;"), "the last but one", x -> x.pays(2), -15);
        asks(by(FOUR + "r03;"), "the last", x -> x.pays(3), REFUSED_1);
        asks(by("p00;"), "one alone", x -> x.pays(0), REFUSED_1);
        asks(NOBODY, "nobody", x -> x.pays(0), REFUSED_1);
    }

    static void p18NoSuchRow() {
        asks(by(FOUR + "r03;"), "row 0", x -> x.pays(0), -16);
        refusesOutside(by(FOUR + "r03;"), "pays", 0, 2, (x, v) -> x.pays(v), REFUSED_1);
        asks(by(EIGHT).and(x -> x.tips(6, 3)), "row 6", x -> x.pays(6), 0);
        refusesOutside(by(EIGHT), "pays", 0, 6, (x, v) -> x.pays(v), REFUSED_1);
    }

    static void p18MayBeBelow0() {
        asks(by("p00;p22;t001;"), "1 more", x -> x.pays(0), 1);
        asks(by("p00;p00;t001;"), "as much", x -> x.pays(0), 0);
        asks(by("p22;p00;t001;"), "1 less", x -> x.pays(0), -1);
        asks(by("p00;p22;"), "who does not tip", x -> x.pays(0), 0);
    }

    static void p18AllElseAsItIs() {
        asks(by("p29;p60;p29;p00;t010;t101;t208;"), "by TIP of the first alone", x -> x.pays(1), 5);
    }

    // ---- promise 19

    static void p19TheLastRowHasNobodyBehind() {
        asks(by(FOUR + "r03;"), "the last but one", x -> x.price(2), 7);
        asks(by(FOUR + "r03;"), "the last", x -> x.price(3), REFUSED_1);
        asks(by("p00;"), "one alone", x -> x.price(0), REFUSED_1);
        asks(NOBODY, "nobody", x -> x.price(0), REFUSED_1);
    }

    static void p19NoSuchRow() {
        asks(by(FOUR + "r03;"), "row 0", x -> x.price(0), 16);
        refusesOutside(by(FOUR + "r03;"), "price", 0, 2, (x, v) -> x.price(v), REFUSED_1);
    }

    static void p19Is0IfTheFirstDoesNotTip() {
        asks(by("p00;p29;t000;"), "0", x -> x.price(0), 0);
        asks(by("p00;p29;t001;"), "1", x -> x.price(0), 3);
    }

    static void p19CutTowards0() {
        asks(by("p00;p00;t001;"), "2 by 2", x -> x.price(0), 1);
        asks(by("p00;p22;t001;"), "3 by 2", x -> x.price(0), 1);
        asks(by("p00;p24;t001;"), "4 by 2", x -> x.price(0), 2);
        asks(by("p00;p60;t001;"), "1 by 2", x -> x.price(0), 0);
        asks(by("p00;p60;t010;"), "10 by 2", x -> x.price(0), 5);
    }
}
