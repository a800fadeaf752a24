/** Boundary cases of promises 1 to 9 but for the text: who sits where, and the rounds that are gone. */
public final class BoundaryCoachTest extends Boundary {
    private static final int[] FIGURE_BY_3 = {0, 0, 0, 1, 1, 1, 2, 2, 2, 3};
    private static final int[] FIGURE_BY_2 = {0, 0, 1, 1, 2, 2, 3, 3, 4, 4};

    public static void main(String[] args) throws IllegalAccessException {
        runAll(BoundaryCoachTest.class);
    }

    // ---- promise 1

    static void p01NobodyAt22WithoutATripAtFirst() {
        int[] counts = {0, 22, 0, 0, 0, 0, 0};
        for (int i = 0; i < counts.length; i++) {
            int what = i;
            asks(NOBODY, "count(" + i + ")", x -> x.count(what), counts[i]);
        }
    }

    static void p01ShelvesHoldNothingAtFirst() {
        for (int d = 0; d < 8; d++) {
            int shelf = d;
            asks(NOBODY, "cost(" + d + ")", x -> x.cost(shelf), -11);
            asks(NOBODY, "put(" + d + ", 0, 0)", x -> x.put(shelf, 0, 0), -11);
        }
    }

    static void p01NoImageAtFirst() {
        asks(NOBODY, "restore", x -> x.restore(), -3);
    }

    static void p01WhoComesIsUprightAndNotBlockedAtFirst() {
        for (int row = 0; row < 8; row++) {
            int one = row;
            asks(by(EIGHT), "TIP of row " + row, x -> x.seat(one, 2), 0);
            asks(by(EIGHT), "BLOCKED of row " + row, x -> x.seat(one, 3), 0);
        }
    }

    static void p01TheLastOf512CallsIsAnswered() {
        TippedIntoTheNextLap x = new TippedIntoTheNextLap();
        x.keep(0, 1, 0, 1);
        for (int calls = 1; calls < 511; calls++) {
            x.hour(calls % 24);
        }
        due("the 512th", x.toss(0), 1);
    }

    // ---- promise 3

    static void p03NoSuchRow() {
        asks(by("p35;p04;"), "the last row", x -> x.seat(1, 1), 4);
        refusesOutside(by("p35;p04;"), "seat of a row", 0, 1, (x, v) -> x.seat(v, 1), -1);
        refusesOutside(by(EIGHT), "seat of eight", 0, 7, (x, v) -> x.seat(v, 0), -1);
    }

    static void p03NobodysRow() {
        asks(NOBODY, "seat(0, 0) of nobody", x -> x.seat(0, 0), -1);
        asks(by("p60;"), "seat(0, 0) of one", x -> x.seat(0, 0), 6);
    }

    static void p03WhatFrom0To7() {
        asksBoth(by("p60;"), "seat(0, what)", (x, v) -> x.seat(0, v), 0, 6, 7, 20);
        refusesOutside(by("p60;"), "seat(0, what)", 0, 7, (x, v) -> x.seat(0, v), -1);
    }

    static void p03KneesOfATallOneFigureBy3Cut() {
        for (int f = 0; f < 10; f++) {
            asks(by("p2" + f + ";"), "KNEES of TALL " + f, x -> x.seat(0, 5), 6 + FIGURE_BY_3[f]);
        }
    }

    static void p03KneesOfAStopper1MoreThanATallOnes() {
        for (int f = 0; f < 10; f++) {
            asks(by("p7" + f + ";"), "KNEES of STOPPER " + f, x -> x.seat(0, 5), 7 + FIGURE_BY_3[f]);
        }
    }

    static void p03KneesOfAllOthersHaveNothingToDoWithFigures() {
        int[] kinds = {0, 1, 3, 4, 5, 6};
        int[] knees = {2, 2, 1, 2, 2, 0};
        for (int i = 0; i < kinds.length; i++) {
            asks(by("p" + kinds[i] + "0;"), "KNEES of KIND " + kinds[i], x -> x.seat(0, 5), knees[i]);
            asks(by("p" + kinds[i] + "9;"), "KNEES of KIND " + kinds[i], x -> x.seat(0, 5), knees[i]);
        }
    }

    static void p03WorthOfATallOneFigureBy2CutAnd1() {
        for (int f = 0; f < 10; f++) {
            asks(by("p2" + f + ";"), "WORTH of TALL " + f, x -> x.seat(0, 6), FIGURE_BY_2[f] + 1);
        }
    }

    static void p03WorthOfAStopper1LessThanATallOnes() {
        for (int f = 0; f < 10; f++) {
            asks(by("p7" + f + ";"), "WORTH of STOPPER " + f, x -> x.seat(0, 6), FIGURE_BY_2[f]);
        }
    }

    static void p03WorthOfASleeperFrom22To5() {
        for (int h = 0; h < 24; h++) {
            int hour = h;
            boolean night = h == 22 || h == 23 || h <= 5;
            asks(by("p10;").and(x -> x.hour(hour)), "WORTH of a SLEEPER at " + h, x -> x.seat(0, 6), night ? 3 : 1);
        }
    }

    static void p03WorthOfAllOthersHasNothingToDoWithHours() {
        int[] kinds = {0, 2, 3, 4, 5, 6, 7};
        int[] worth = {1, 4, 0, 1, 1, 0, 3};
        for (int i = 0; i < kinds.length; i++) {
            String one = "p" + kinds[i] + "7;";
            asks(by(one + "h21;"), "WORTH by day of KIND " + kinds[i], x -> x.seat(0, 6), worth[i]);
            asks(by(one + "h22;"), "WORTH by night of KIND " + kinds[i], x -> x.seat(0, 6), worth[i]);
        }
    }

    static void p03Can0AtLeast() {
        asks(by("p00;p78;"), "CAN ahead of KNEES 9", x -> x.seat(0, 4), 1);
        asks(by("p00;p79;"), "CAN ahead of KNEES 10", x -> x.seat(0, 4), 0);
    }

    static void p03Can10AtMost() {
        asks(by("p00;p30;"), "CAN ahead of KNEES 1", x -> x.seat(0, 4), 9);
        asks(by("p00;p60;"), "CAN ahead of KNEES 0", x -> x.seat(0, 4), 10);
    }

    static void p03BlockedIs1Or0() {
        asks(by("p00;p00;b1;"), "not blocked", x -> x.seat(0, 3), 0);
        asks(by("p00;p00;b1;"), "blocked", x -> x.seat(1, 3), 1);
        asks(by("p00;p00;b1;b1;"), "not any more", x -> x.seat(1, 3), 0);
    }

    static void p03Can0InTheLastRow() {
        asks(by("p60;p60;"), "CAN in the last row but one", x -> x.seat(0, 4), 10);
        asks(by("p60;p60;"), "CAN in the last row", x -> x.seat(1, 4), 0);
        asks(by("p60;"), "CAN in the only row", x -> x.seat(0, 4), 0);
        asks(by(EIGHT), "CAN in row 6", x -> x.seat(6, 4), 8);
        asks(by(EIGHT), "CAN in row 7", x -> x.seat(7, 4), 0);
    }

    static void p03Can0IfBlocked() {
        asks(by("p00;p00;p00;b1;"), "CAN ahead of a block", x -> x.seat(0, 4), 8);
        asks(by("p00;p00;p00;b1;"), "CAN with a block", x -> x.seat(1, 4), 0);
        asks(by("p00;p00;p00;b1;b1;"), "CAN with a block no more", x -> x.seat(1, 4), 8);
    }

    static void p03RoomIsLeast10AndMost30() {
        asks(by("p00;p60;t010;"), "ROOM of who tips 10", x -> x.seat(0, 7), 30);
        asks(by("p00;p60;t010;"), "ROOM behind", x -> x.seat(1, 7), 10);
        asks(by("p00;p60;"), "ROOM upright", x -> x.seat(1, 7), 20);
    }

    // ---- promise 4

    static void p04EightAtMost() {
        Making seven = withPerson(by("p00;p00;p00;p00;p00;p00;p00;"), 2, 5, 9);
        TippedIntoTheNextLap x = does(seven, "the eighth", y -> y.comes(2), 7);
        due("people", x.count(0), 8);
        due("KIND", x.seat(7, 0), 5);
        due("FIGURE", x.seat(7, 1), 9);
        asks(withPerson(by(EIGHT), 2, 5, 9), "the ninth", y -> y.comes(2), -2);
    }

    static void p04TheFirstSitsInRow0() {
        does(withPerson(NOBODY, 0, 7, 0), "the first", x -> x.comes(0), 0);
        does(withPerson(by("p00;"), 0, 7, 0), "the second", x -> x.comes(0), 1);
    }

    static void p04NoSuchShelf() {
        does(withPerson(NOBODY, 7, 0, 0), "shelf 7", x -> x.comes(7), 0);
        refusesOtherShelves(by("p00;"), "comes", (x, v) -> x.comes(v));
    }

    static void p04NothingHeld() {
        asks(by("p00;"), "nothing", x -> x.comes(0), -11);
    }

    static void p04ARowOfNumbersIsNobody() {
        for (int sort = BYTES; sort <= INTS; sort++) {
            asks(withRow(by("p00;"), 0, sort, 3), "a row of sort " + sort, x -> x.comes(0), -12);
        }
    }

    static void p04RefusalsAsTheyAreTold() {
        asks(by(EIGHT), "full, and no such shelf", x -> x.comes(8), -1);
        asks(by(EIGHT), "full, and nothing held", x -> x.comes(0), -11);
        asks(withRow(by(EIGHT), 0, BYTES), "full, and a row", x -> x.comes(0), -12);
    }

    static void p04HeStaysOnTheShelf() {
        TippedIntoTheNextLap x = does(withPerson(NOBODY, 0, 1, 9), "once", y -> y.comes(0), 0);
        due("cost", x.cost(0), 12);
        due("again", x.comes(0), 1);
    }

    static void p04TheOneAheadCanTipFromThenOn() {
        Making one = by("p00;");
        asks(one, "alone", x -> x.tips(0, 1), -3);
        TippedIntoTheNextLap x = does(withPerson(one, 0, 0, 0), "one more", y -> y.comes(0), 1);
        due("8", x.tips(0, 8), 0);
        due("9", x.tips(0, 9), -3);
    }

    // ---- promise 5

    static void p05TipFrom0To10() {
        Making ahead = by("p00;p60;t003;");
        due("0", does(ahead, "tips(0, 0)", x -> x.tips(0, 0), 3).seat(0, 2), 0);
        due("10", does(ahead, "tips(0, 10)", x -> x.tips(0, 10), 3).seat(0, 2), 10);
        refusesOutside(ahead, "tips(0, v)", 0, 10, (x, v) -> x.tips(0, v), -1);
    }

    static void p05AboveCan() {
        Making ahead = by("p00;p23;t001;");
        due("3", does(ahead, "all that he can", x -> x.tips(0, 3), 1).seat(0, 2), 3);
        asks(ahead, "one more", x -> x.tips(0, 4), -3);
        asks(ahead, "10", x -> x.tips(0, 10), -3);
    }

    static void p05TheLastRowTipsNone() {
        does(by("p60;p60;"), "0 in the last row", x -> x.tips(1, 0), 0);
        asks(by("p60;p60;"), "1 in the last row", x -> x.tips(1, 1), -3);
    }

    static void p05ABlockedOneTipsNone() {
        does(by("p60;p60;b0;"), "0 with a block", x -> x.tips(0, 0), 0);
        asks(by("p60;p60;b0;"), "1 with a block", x -> x.tips(0, 1), -3);
        does(by("p60;p60;b0;b0;"), "10 with a block no more", x -> x.tips(0, 10), 0);
    }

    static void p05WhoHasAStopperOfFigure9BehindTipsNone() {
        does(by("p60;p78;"), "1 ahead of figure 8", x -> x.tips(0, 1), 0);
        asks(by("p60;p79;"), "1 ahead of figure 9", x -> x.tips(0, 1), -3);
        does(by("p60;p79;"), "0 ahead of figure 9", x -> x.tips(0, 0), 0);
    }

    static void p05NoSuchRow() {
        does(by("p00;p00;p00;"), "row 1", x -> x.tips(1, 8), 0);
        refusesOutside(by("p00;p00;p00;"), "tips of a row", 0, 2, (x, v) -> x.tips(v, 0), -1);
        asks(NOBODY, "nobody's row", x -> x.tips(0, 0), -1);
    }

    static void p05OutOfRangeGoesAheadOfAboveCan() {
        asks(by("p60;p60;"), "11 in the last row", x -> x.tips(1, 11), -1);
        asks(by("p60;p60;"), "10 in the last row", x -> x.tips(1, 10), -3);
    }

    // ---- promise 6

    static void p06NoSuchRow() {
        does(by("p00;p00;"), "row 0", x -> x.blocks(0), 1);
        does(by("p00;p00;"), "row 1", x -> x.blocks(1), 1);
        refusesOutside(by("p00;p00;"), "blocks of a row", 0, 1, (x, v) -> x.blocks(v), -1);
        refusesOutside(by(EIGHT), "blocks of eight", 0, 7, (x, v) -> x.blocks(v), -1);
        asks(by("p00;p00;"), "a row by whose number bits wrap around", x -> x.blocks(32), -1);
        asks(NOBODY, "nobody's row", x -> x.blocks(0), -1);
    }

    static void p06TipIs0ThenAndStaysSo() {
        TippedIntoTheNextLap x = does(by("p00;p00;t008;"), "blocked", y -> y.blocks(0), 1);
        dueTips("blocked", x, 0, 0);
        due("not any more", x.blocks(0), 0);
        dueTips("not any more", x, 0, 0);
        due("8 again", x.tips(0, 8), 0);
    }

    static void p06OthersTipAsTheyDid() {
        TippedIntoTheNextLap x = does(by("p00;p00;p00;p00;t008;t107;t206;"), "row 1", y -> y.blocks(1), 1);
        dueTips("row 1", x, 8, 0, 6, 0);
        due("bits", x.count(4), 2);
    }

    static void p06ALateRowHasNoBlockOfItsOwn() {
        TippedIntoTheNextLap x = by("p00;").and(y -> {
            y.image();
            y.keep(0, 1, 0, 0);
            y.comes(0);
            y.blocks(1);
            y.restore();
        }).made();
        due("one more", x.comes(0), 1);
        due("not blocked", x.seat(1, 3), 0);
    }

    // ---- promise 7

    static void p07HourFrom0To23() {
        due("0", does(by("h07;"), "hour(0)", x -> x.hour(0), 7).count(1), 0);
        due("23", does(by("h07;"), "hour(23)", x -> x.hour(23), 7).count(1), 23);
        refusesOutside(by("p10;h07;"), "hour", 0, 23, (x, v) -> x.hour(v), -1);
    }

    static void p07WasTheOneOfAllTheHours() {
        TippedIntoTheNextLap x = new TippedIntoTheNextLap();
        int was = 22;
        for (int h = 0; h < 24; h++) {
            due("hour(" + h + ")", x.hour(h), was);
            was = h;
        }
    }

    // ---- promise 8

    static void p08NoSuchRow() {
        Making three = by("p31;p32;p33;b1;");
        TippedIntoTheNextLap x = does(three, "the first and the last", y -> y.change(0, 2), 1);
        due("row 0", x.seat(0, 1), 3);
        due("row 1", x.seat(1, 1), 2);
        due("row 2", x.seat(2, 1), 1);
        refusesOutside(three, "change of a", 0, 2, (y, v) -> y.change(v, 1), -1);
        refusesOutside(three, "change of b", 0, 2, (y, v) -> y.change(1, v), -1);
    }

    static void p08OneTwice() {
        Making two = by("p31;p32;r01;");
        asks(two, "0 and 0", x -> x.change(0, 0), -1);
        asks(two, "1 and 1", x -> x.change(1, 1), -1);
        does(two, "1 and 0", x -> x.change(1, 0), 1);
    }

    static void p08NobodyAndOneAlone() {
        asks(NOBODY, "nobody", x -> x.change(0, 1), -1);
        asks(by("p00;"), "one alone", x -> x.change(0, 1), -1);
        does(by("p00;p00;"), "two", x -> x.change(0, 1), 1);
    }

    static void p08AllTipsAre0Then() {
        TippedIntoTheNextLap x = does(by("p00;p00;p00;p00;t008;t107;t206;"), "0 and 1", y -> y.change(0, 1), 1);
        dueTips("all, not those two alone", x, 0, 0, 0, 0);
    }

    // ---- promise 9

    static void p09From1To60() {
        TippedIntoTheNextLap x = does(by(FOUR), "1", y -> y.rounds(1), 10);
        due("TRIP", x.count(2), 1);
        TippedIntoTheNextLap y = does(by(FOUR), "60", z -> z.rounds(60), 12);
        due("TRIP", y.count(2), 60);
        refusesOutside(by(FOUR), "rounds", 1, 60, (z, v) -> z.rounds(v), -1);
    }

    static void p09TripAbove999() {
        TippedIntoTheNextLap x = does(late(FOUR, 939), "60 from 939", y -> y.rounds(60), 12);
        due("TRIP", x.count(2), 999);
        asks(late(FOUR, 940), "60 from 940", y -> y.rounds(60), -3);
        due("TRIP", does(late(FOUR, 998), "1 from 998", y -> y.rounds(1), 12).count(2), 999);
        asks(late(FOUR, 999), "1 from 999", y -> y.rounds(1), -3);
    }

    static void p09NoneOfThemGoesThen() {
        Making upright = late("p10;p00;", 990).and(x -> x.tips(0, 1));
        dueTips("9 go", does(upright, "9", x -> x.rounds(9), 8), 8, 0);
        asks(upright, "10, of which 9 could go", x -> x.rounds(10), -3);
    }

    static void p09OutOfRangeGoesAheadOfTooManyRounds() {
        asks(late(FOUR, 999), "61", x -> x.rounds(61), -1);
        asks(late(FOUR, 999), "0", x -> x.rounds(0), -1);
        asks(late(FOUR, 999), "60", x -> x.rounds(60), -3);
    }

    static void p09NobodyTravelsToo() {
        due("TRIP", does(NOBODY, "60", x -> x.rounds(60), 0).count(2), 60);
        asks(late("", 999), "one more", x -> x.rounds(1), -3);
    }

    static void p09ASleeperWants10From22To5() {
        for (int h = 0; h < 24; h++) {
            int hour = h;
            boolean night = h == 22 || h == 23 || h <= 5;
            does(by("p10;p60;").and(x -> x.hour(hour)), "at " + h, x -> x.rounds(1), night ? 10 : 0);
        }
    }

    /** The one ahead tips a, a BABY sits behind: so all are free to tip 10. */
    private static void dueWants(String who, String more, int... wants) {
        for (int a = 0; a < wants.length; a++) {
            int ahead = a;
            Making made = by("p00;" + who + "p60;" + more).and(x -> x.tips(0, ahead));
            due(who + more + " behind " + a, made.made().seat(0, 2), a);
            TippedIntoTheNextLap x = made.made();
            x.rounds(1);
            due(who + more + " behind " + a + " wants", x.seat(1, 2), wants[a]);
        }
    }

    static void p09ASitterWantsAsTheOneAhead() {
        dueWants("p00;", "", 0, 1, 2, 3, 4, 5, 6, 7, 8);
    }

    static void p09ASleeperWantsAsTheOneAheadByDay() {
        dueWants("p10;", "h06;", 0, 1, 2, 3, 4, 5, 6, 7, 8);
        dueWants("p10;", "h21;", 0, 1, 2, 3, 4, 5, 6, 7, 8);
        dueWants("p10;", "h22;", 10, 10, 10, 10, 10, 10, 10, 10, 10);
        dueWants("p10;", "h05;", 10, 10, 10, 10, 10, 10, 10, 10, 10);
    }

    static void p09ATallOneWants2More() {
        dueWants("p20;", "", 2, 3, 4, 5, 6);
        dueWants("p29;", "", 2, 3);
    }

    static void p09AChildWantsItsFigure() {
        for (int f = 0; f < 10; f++) {
            dueWants("p3" + f + ";", "", f, f, f, f, f, f, f, f, f, f);
        }
    }

    static void p09AShyOneWantsHalfCut() {
        dueWants("p49;", "", 0, 0, 1, 1, 2, 2, 3, 3, 4);
    }

    static void p09APoliteOneWants1LessThanAShyOneBut0AtLeast() {
        dueWants("p59;", "", 0, 0, 0, 0, 1, 1, 2, 2, 3);
    }

    static void p09ABabyAndAStopperWantNone() {
        dueWants("p69;", "", 0, 0, 0, 0, 0, 0, 0, 0, 0, 0, 0);
        dueWants("p70;", "", 0, 0, 0, 0);
    }

    static void p09InRow0TheOneAheadTips0() {
        for (int k = 0; k < 8; k++) {
            int want = k == 2 ? 2 : k == 3 ? 9 : 0;
            does(by("p" + k + "9;p60;h12;"), "KIND " + k + " by day", x -> x.rounds(1), want);
        }
    }

    static void p09NoMoreThanHeCan() {
        String[] behind = {"p00;", "p19;", "p20;", "p23;", "p26;", "p29;", "p30;", "p49;", "p59;", "p69;", "p72;",
            "p73;", "p78;", "p79;"};
        int[] can = {8, 8, 4, 3, 2, 1, 9, 8, 8, 10, 3, 2, 1, 0};
        for (int i = 0; i < can.length; i++) {
            TippedIntoTheNextLap x = by("p10;" + behind[i]).made();
            x.rounds(1);
            due("a sleeper ahead of " + behind[i], x.seat(0, 2), can[i]);
        }
        does(by("p37;p00;"), "7 of 8", x -> x.rounds(1), 7);
        does(by("p38;p00;"), "8 of 8", x -> x.rounds(1), 8);
        does(by("p39;p00;"), "9 of 8", x -> x.rounds(1), 8);
    }

    static void p09TheLastAndTheBlockedTipNone() {
        dueTips("the last", does(by("p60;p10;"), "1", x -> x.rounds(1), 0), 0, 0);
        dueTips("the blocked", does(by("p10;p10;p60;b0;"), "1", x -> x.rounds(1), 10), 0, 10, 0);
    }

    static void p09TipsAreLookedAtAsTheRoundBegins() {
        TippedIntoTheNextLap x = does(by("p10;p00;p00;p00;"), "1", y -> y.rounds(1), 8);
        dueTips("1", x, 8, 0, 0, 0);
        due("one more", x.rounds(1), 16);
        dueTips("2", x, 8, 8, 0, 0);
        due("one more", x.rounds(1), 24);
        dueTips("3", x, 8, 8, 8, 0);
    }
}
