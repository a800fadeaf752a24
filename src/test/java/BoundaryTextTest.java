/** Boundary cases of promise 2: the text of a coach, what it does and its faults. */
public final class BoundaryTextTest extends Boundary {
    private static final String LETTERS = "ptbhrx";
    private static final int[] DIGITS = {2, 3, 1, 2, 2, 2};

    public static void main(String[] args) throws IllegalAccessException {
        runAll(BoundaryTextTest.class);
    }

    private static boolean isDigit(int sign) {
        return sign >= '0' && sign <= '9';
    }

    /** The text's bytes, and one more of any value. */
    private static void duePlace(String text, int more, int want) {
        int[] all = new int[text.length() + 1];
        for (int i = 0; i < text.length(); i++) {
            all[i] = text.charAt(i);
        }
        all[text.length()] = more;
        asks(withRow(NOBODY, 0, BYTES, all), "coach of \"" + text + "\" and byte " + more, x -> x.coach(0), want);
    }

    private static String repeated(String statement, int times) {
        StringBuilder all = new StringBuilder();
        for (int i = 0; i < times; i++) {
            all.append(statement);
        }
        return all.toString();
    }

    static void p02OneStatementAtLeast() {
        refusesText(NOBODY, "", -1000);
        refusesText(by(FOUR), "", -1000);
        due("hour", takesText(NOBODY, "h00;", 1).count(1), 0);
    }

    static void p02NoSuchShelf() {
        does(withRow(NOBODY, 0, BYTES, 'h', '0', '0', ';'), "shelf 0", x -> x.coach(0), 1);
        does(withRow(NOBODY, 7, BYTES, 'h', '0', '0', ';'), "shelf 7", x -> x.coach(7), 1);
        refusesOtherShelves(by(FOUR), "coach", (x, v) -> x.coach(v));
    }

    static void p02NothingHeld() {
        asks(by(FOUR), "nothing", x -> x.coach(3), -11);
    }

    static void p02NoRowOfBytes() {
        asks(withPerson(by(FOUR), 3, 0, 0), "a person", x -> x.coach(3), -12);
        asks(withRow(by(FOUR), 3, SHORTS, 'h', '0', '0', ';'), "shorts", x -> x.coach(3), -12);
        asks(withRow(by(FOUR), 3, INTS, 'h', '0', '0', ';'), "ints", x -> x.coach(3), -12);
        asks(withRow(by(FOUR), 3, SHORTS), "no shorts at all", x -> x.coach(3), -12);
        does(withRow(by(FOUR), 3, BYTES, 'h', '0', '0', ';'), "bytes", x -> x.coach(3), 1);
    }

    static void p02ALongestText() {
        due("hour", takesText(NOBODY, repeated("h01;", 25), 25).count(1), 1);
        refusesText(NOBODY, repeated("h01;", 24) + "h01", -1099);
        refusesText(NOBODY, repeated("h01;", 24) + "t000", -1100);
        refusesText(NOBODY, repeated("h01;", 24) + "h24;", -2096);
    }

    static void p02TheFirstByteIsOneOfSixLetters() {
        for (int sign = -128; sign < 128; sign++) {
            boolean letter = sign >= 0 && LETTERS.indexOf(sign) >= 0;
            duePlace("", sign, letter ? -1001 : -1000);
            duePlace("h00;", sign, letter ? -1005 : -1004);
        }
    }

    static void p02EachDigitIsFrom0To9() {
        for (int i = 0; i < DIGITS.length; i++) {
            for (int place = 1; place <= DIGITS[i]; place++) {
                String text = LETTERS.charAt(i) + repeated("0", place - 1);
                for (int sign = -128; sign < 128; sign++) {
                    duePlace(text, sign, isDigit(sign) ? -1000 - place - 1 : -1000 - place);
                }
            }
        }
    }

    static void p02BehindAsManyDigitsAsToldComesTheSemicolon() {
        for (int i = 0; i < DIGITS.length; i++) {
            String text = LETTERS.charAt(i) + repeated("0", DIGITS[i]);
            for (int sign = -128; sign < 128; sign++) {
                if (sign != ';') {
                    duePlace(text, sign, -1000 - text.length());
                }
            }
            boolean can = LETTERS.charAt(i) == 'p' || LETTERS.charAt(i) == 'h';
            does(withText(NOBODY, text + ";"), text + ";", x -> x.coach(7), can ? 1 : -2000);
        }
    }

    static void p02ADigitTooFewOrTooMany() {
        String[] fewer = {"p0;", "t00;", "b;", "h0;", "r1;", "x0;"};
        String[] more = {"p000;", "t0000;", "b00;", "h000;", "r001;", "x010;"};
        for (int i = 0; i < fewer.length; i++) {
            refusesText(by("p00;p00;"), fewer[i], -1000 - DIGITS[i]);
            takesText(by("p00;p00;"), more[i].substring(0, DIGITS[i]) + "1;", 1);
            refusesText(by("p00;p00;"), more[i], -1001 - DIGITS[i]);
        }
    }

    static void p02TheEndIfSomethingLacks() {
        String text = "p00;p00;t008;b0;h23;r60;x01;";
        for (int length = 1; length < text.length(); length++) {
            if (text.charAt(length - 1) != ';') {
                refusesText(NOBODY, text.substring(0, length), -1000 - length);
            }
        }
        takesText(NOBODY, text, 7);
    }

    static void p02TwoSemicolons() {
        refusesText(NOBODY, "h00;;", -1004);
        refusesText(NOBODY, ";", -1000);
        refusesText(NOBODY, ";h00;", -1000);
    }

    static void p02KindOneGoesAheadOfKindTwo() {
        refusesText(NOBODY, "b0;", -2000);
        refusesText(NOBODY, "b0;h0", -1005);
        refusesText(NOBODY, "b0;h24;h00;q", -1011);
        refusesText(NOBODY, "b0;h24;h00;", -2000);
    }

    static void p02TheFirstThatCantBeDoneIsTold() {
        refusesText(NOBODY, "h00;h24;b0;h25;", -2004);
        refusesText(NOBODY, "h00;h23;b0;h25;", -2008);
        refusesText(NOBODY, "h00;h23;p00;b0;h25;", -2015);
    }

    static void p02KindFrom0To7() {
        for (int k = 0; k < 10; k++) {
            if (k < 8) {
                due("KIND", takesText(NOBODY, "p" + k + "0;", 1).seat(0, 0), k);
            } else {
                refusesText(NOBODY, "p" + k + "0;", -2000);
            }
        }
    }

    static void p02FigureFrom0To9() {
        for (int f = 0; f < 10; f++) {
            due("FIGURE", takesText(NOBODY, "p0" + f + ";", 1).seat(0, 1), f);
        }
    }

    static void p02NoRoomForTheNinth() {
        due("people", takesText(NOBODY, EIGHT, 8).count(0), 8);
        refusesText(NOBODY, EIGHT + "p00;", -2032);
        due("people", takesText(by("p00;p00;p00;p00;p00;p00;p00;"), "p00;", 1).count(0), 8);
        refusesText(by(EIGHT), "p00;", -2000);
        refusesText(by("p00;p00;p00;p00;p00;p00;p00;"), "p00;h12;p00;", -2008);
    }

    static void p02TipNoMoreThanHeCan() {
        due("8 of 8", takesText(by("p00;p00;"), "t008;", 1).seat(0, 2), 8);
        refusesText(by("p00;p00;"), "t009;", -2000);
        due("10 of 10", takesText(by("p00;p60;"), "t010;", 1).seat(0, 2), 10);
        refusesText(by("p00;p60;"), "t011;", -2000);
        refusesText(by("p00;p60;"), "t099;", -2000);
        due("0", takesText(by("p00;p60;t010;"), "t000;", 1).seat(0, 2), 0);
    }

    static void p02TipInTheLastRow() {
        takesText(by("p00;p60;"), "t100;", 1);
        refusesText(by("p00;p60;"), "t101;", -2000);
        takesText(by("p00;p60;"), "p00;t108;", 2);
        refusesText(by("p00;p60;"), "t101;p00;", -2000);
    }

    static void p02TipOfABlockedOne() {
        takesText(by("p00;p60;"), "b0;t000;", 2);
        refusesText(by("p00;p60;"), "b0;t001;", -2003);
        takesText(by("p00;p60;"), "b0;b0;t001;", 3);
    }

    static void p02TipOfNoSuchRow() {
        takesText(by(EIGHT), "t700;", 1);
        refusesText(by(EIGHT), "t800;", -2000);
        takesText(by("p00;"), "t000;", 1);
        refusesText(by("p00;"), "t100;", -2000);
        refusesText(NOBODY, "t000;", -2000);
    }

    static void p02BlockOfNoSuchRow() {
        due("bits", takesText(by(EIGHT), "b7;", 1).count(4), 128);
        refusesText(by(EIGHT), "b8;", -2000);
        refusesText(by(EIGHT), "b9;", -2000);
        due("bits", takesText(by("p00;"), "b0;", 1).count(4), 1);
        refusesText(by("p00;"), "b1;", -2000);
        refusesText(NOBODY, "b0;", -2000);
    }

    static void p02ABlockToldAgainIsNone() {
        TippedIntoTheNextLap once = takesText(by("p00;p00;t008;"), "b0;", 1);
        due("once", once.count(4), 1);
        dueTips("once", once, 0, 0);
        TippedIntoTheNextLap twice = takesText(by("p00;p00;t008;"), "b0;b0;", 2);
        due("twice", twice.count(4), 0);
        dueTips("twice: TIP is gone", twice, 0, 0);
        due("thrice", takesText(by("p00;p00;t008;"), "b0;b0;b0;", 3).count(4), 1);
    }

    static void p02HourFrom0To23() {
        due("0", takesText(by("h12;"), "h00;", 1).count(1), 0);
        due("23", takesText(by("h12;"), "h23;", 1).count(1), 23);
        refusesText(by("h12;"), "h24;", -2000);
        refusesText(by("h12;"), "h99;", -2000);
    }

    static void p02RoundsFrom1To60() {
        due("TRIP", takesText(by(FOUR), "r01;", 1).count(2), 1);
        due("TRIP", takesText(by(FOUR), "r60;", 1).count(2), 60);
        refusesText(by(FOUR), "r00;", -2000);
        refusesText(by(FOUR), "r61;", -2000);
        refusesText(by(FOUR), "r99;", -2000);
    }

    static void p02TripAbove999() {
        due("TRIP", takesText(late(FOUR, 939), "r60;", 1).count(2), 999);
        refusesText(late(FOUR, 940), "r60;", -2000);
        due("TRIP", takesText(late(FOUR, 998), "r01;", 1).count(2), 999);
        refusesText(late(FOUR, 999), "r01;", -2000);
    }

    static void p02TripAbove999InOneText() {
        due("TRIP", takesText(by(FOUR), repeated("r60;", 16) + "r39;", 17).count(2), 999);
        refusesText(by(FOUR), repeated("r60;", 16) + "r40;", -2064);
        refusesText(by(FOUR), repeated("r60;", 16) + "r39;r01;", -2068);
    }

    static void p02PlacesOfNoSuchRow() {
        due("row 6", takesText(by("p00;p00;p00;p00;p00;p00;p01;p02;"), "x67;", 1).seat(6, 1), 2);
        refusesText(by(EIGHT), "x68;", -2000);
        refusesText(by(EIGHT), "x86;", -2000);
        due("row 0", takesText(by("p00;p01;"), "x10;", 1).seat(0, 1), 1);
        refusesText(by("p00;p01;"), "x02;", -2000);
        refusesText(by("p00;p01;"), "x20;", -2000);
        refusesText(by("p00;"), "x01;", -2000);
        refusesText(NOBODY, "x01;", -2000);
    }

    static void p02PlacesOfOneTwice() {
        refusesText(by("p00;p01;"), "x00;", -2000);
        refusesText(by("p00;p01;"), "x11;", -2000);
        takesText(by("p00;p01;"), "x01;", 1);
    }

    static void p02PlacesMakeAllTips0() {
        dueTips("all", takesText(by("p00;p00;p00;p00;t008;t107;t206;"), "x01;", 1), 0, 0, 0, 0);
    }

    static void p02EachIsTriedOnWhatThoseAheadMade() {
        takesText(NOBODY, "p00;p00;t008;", 3);
        refusesText(NOBODY, "p00;t008;p00;", -2004);
        refusesText(NOBODY, "t008;p00;p00;", -2000);
        takesText(NOBODY, "p00;p60;t010;", 3);
        refusesText(NOBODY, "p00;p60;x01;t009;", -2012);
        dueTips("rounds go on from there", takesText(by("h12;"), "p00;p00;p00;t005;r01;", 5), 0, 5, 0);
    }

    static void p02WithAFaultNothingComes() {
        String all = "p00;p00;b2;t003;h03;r05;x01;";
        takesText(by(FOUR), all, 7);
        refusesText(by(FOUR), all + "h24;", -2000 - all.length());
        refusesText(by(FOUR), all + "h2", -1000 - all.length() - 2);
    }

    static void p02TheTextStaysOnTheShelf() {
        TippedIntoTheNextLap x = takesText(NOBODY, "p00;", 1);
        for (int people = 2; people <= 8; people++) {
            due("again", x.coach(7), 1);
            due("people", x.count(0), people);
        }
        due("full", x.coach(7), -2000);
        due("first byte", x.element(7, 0), 'p');
    }

    static void p02TheLowestBitsAreTheText() {
        does(withRow(NOBODY, 0, BYTES, 'h' + 256, '0' - 256, '7' + 65536, ';'), "a byte's bits", x -> x.coach(0), 1);
    }
}
