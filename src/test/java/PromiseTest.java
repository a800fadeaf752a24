/** Each promise of the document by answers that were worked out by hand. */
public final class PromiseTest {
    private static final int REFUSED_1 = 1000000001;
    private static final int REFUSED_3 = 1000000003;
    /** SLEEPER 3, SITTER 5, TALL 9, BABY 9; at 22: CAN 8 1 10 0, WORTH 3 1 5 0; TIPS 8 0 2 0, 8 1 2 0, 8 1 3 0. */
    private static final String FOUR = "p13;p05;p29;p69;";

    private static int wrong = 0;

    private static void due(int promise, String call, long got, long want) {
        if (got != want) {
            wrong++;
            System.out.println("promise " + promise + ": " + call + " answered " + got + ", due is " + want);
        }
    }

    private static int say(TippedIntoTheNextLap x, String text) {
        x.row(7, 0, text.length());
        for (int i = 0; i < text.length(); i++) {
            x.put(7, i, text.charAt(i));
        }
        return x.coach(7);
    }

    private static TippedIntoTheNextLap with(String text) {
        TippedIntoTheNextLap x = new TippedIntoTheNextLap();
        if (say(x, text) < 0) {
            throw new IllegalStateException("a test's own text is refused: " + text);
        }
        return x;
    }

    private static void numbers(TippedIntoTheNextLap x, int d, int sort, int... told) {
        x.row(d, sort, told.length);
        for (int i = 0; i < told.length; i++) {
            x.put(d, i, told[i]);
        }
    }

    private static void dueTips(int promise, TippedIntoTheNextLap x, int... tips) {
        due(promise, "people", x.count(0), tips.length);
        for (int i = 0; i < tips.length; i++) {
            due(promise, "tip of row " + i, x.seat(i, 2), tips[i]);
        }
    }

    /** 0 nothing thrown, 1 IllegalArgumentException, 2 IllegalStateException. */
    private static int thrown(TippedIntoTheNextLap x, int d, int i) {
        try {
            x.element(d, i);
            return 0;
        } catch (IllegalArgumentException e) {
            return 1;
        } catch (IllegalStateException e) {
            return 2;
        }
    }

    public static void main(String[] args) {
        newObject();
        coachDoes();
        coachFirstFaults();
        coachSecondFaults();
        seat();
        comes();
        tips();
        blocks();
        hour();
        change();
        rounds();
        behind();
        still();
        run();
        longest();
        began();
        lost();
        best();
        laws();
        pays();
        price();
        order();
        swap();
        stops();
        ask();
        bestHour();
        two();
        looksRound();
        whatIs();
        mean();
        tightest();
        forged();
        judge();
        trips();
        image();
        count();
        keep();
        row();
        put();
        element();
        copy();
        cost();
        toss();
        System.out.println(wrong == 0 ? "all promises hold" : wrong + " answers are wrong");
        if (wrong != 0) {
            System.exit(1);
        }
    }

    private static void newObject() {
        TippedIntoTheNextLap x = new TippedIntoTheNextLap();
        int[] counts = {0, 22, 0, 0, 0, 0, 0};
        for (int i = 0; i < counts.length; i++) {
            due(1, "count(" + i + ")", x.count(i), counts[i]);
        }
        for (int d = 0; d < 8; d++) {
            due(1, "cost of nothing", x.cost(d), -11);
        }
        due(1, "no image", x.restore(), -3);
        due(1, "no row", x.seat(0, 0), -1);
        due(1, "no tips", x.rounds(1), 0);
        due(1, "trip of nobody", x.count(2), 1);
    }

    private static void coachDoes() {
        TippedIntoTheNextLap x = new TippedIntoTheNextLap();
        due(2, "four", say(x, FOUR + "r01;"), 5);
        dueTips(2, x, 8, 0, 2, 0);
        due(2, "trip", x.count(2), 1);
        due(2, "on what is there", say(x, "b1;t004;h05;"), 3);
        dueTips(2, x, 4, 0, 2, 0);
        due(2, "blocked", x.count(4), 2);
        due(2, "hour", x.count(1), 5);
        due(2, "free again, tips stay", say(x, "b1;"), 1);
        dueTips(2, x, 4, 0, 2, 0);
        due(2, "blocked", x.count(4), 0);
        due(2, "a block takes the tip", say(x, "b2;"), 1);
        dueTips(2, x, 4, 0, 0, 0);
        due(2, "places", say(x, "x02;"), 1);
        dueTips(2, x, 0, 0, 0, 0);
        due(2, "tall ahead", x.seat(0, 0), 2);
        due(2, "his figure", x.seat(0, 1), 9);
        due(2, "sleeper behind", x.seat(2, 0), 1);
        due(2, "block stays with the row", x.count(4), 4);
        due(2, "text stays", x.coach(7), 1);
        due(2, "back again", x.seat(2, 0), 2);
        due(2, "60 rounds", say(x, "r60;"), 1);
        due(2, "61", x.count(2), 61);
        due(2, "the same block twice", say(x, "b0;b0;"), 2);
        due(2, "bits", x.count(4), 4);
        due(2, "h00 and h23", say(x, "h00;h23;"), 2);
        due(2, "23", x.count(1), 23);
        due(2, "the most that he can", say(with("p00;p00;"), "t008;"), 1);
        due(2, "one more behind the last", say(with("p00;p00;"), "p30;t109;"), 2);
    }

    private static void coachFirstFaults() {
        String[] texts = {"", "p", "p0", "p00", "q00;", "p0a;", "pa0;", "p000", "p00;;", "p00;p", "t00;", "t0000;",
            "b;", "b00;", "h0;", "h000;", "r1;", "x0;", "x012;", "P00;", "p00; p00;", "p99;b9;t999;x99;r99;h99;z"};
        int[] places = {0, 1, 2, 3, 0, 2, 1, 3, 4, 5, 3, 4,
            1, 2, 2, 3, 2, 2, 3, 0, 4, 24};
        for (int i = 0; i < texts.length; i++) {
            TippedIntoTheNextLap x = new TippedIntoTheNextLap();
            due(2, "\"" + texts[i] + "\"", say(x, texts[i]), -1000 - places[i]);
            due(2, "nobody by \"" + texts[i] + "\"", x.count(0), 0);
        }
        TippedIntoTheNextLap x = new TippedIntoTheNextLap();
        due(2, "a wrong byte goes ahead of a wrong statement", say(x, "b0;p0"), -1005);
        numbers(x, 0, 0, 'p', '0', '0', -128);
        due(2, "a byte below 0", x.coach(0), -1003);
        numbers(x, 0, 0, 'p' + 256, '0', '0', ';');
        due(2, "lowest bits", x.coach(0), 1);
        due(2, "no shelf", x.coach(-1), -1);
        due(2, "no shelf", x.coach(8), -1);
        due(2, "nothing", x.coach(3), -11);
        x.keep(3, 1, 0, 0);
        due(2, "a kind", x.coach(3), -12);
        x.row(3, 1, 4);
        due(2, "shorts", x.coach(3), -12);
        x.row(3, 2, 4);
        due(2, "ints", x.coach(3), -12);
    }

    private static void coachSecondFaults() {
        String[] texts = {"p80;", "p90;", "b0;", "h24;", "h99;", "r00;", "r61;", "x01;", "t000;",
            "p00;b1;", "p00;p00;x00;", "p00;p00;x02;", "p00;p00;x20;", "p00;p00;t009;", "p00;p00;t200;", "p00;t001;",
            "p00;p00;b0;t001;", "p00;p00;p00;p00;p00;p00;p00;p00;p00;", "p00;h24;b9;", "t008;p00;p00;"};
        int[] places = {0, 0, 0, 0, 0, 0, 0, 0, 0,
            4, 8, 8, 8, 8, 8, 4,
            11, 32, 4, 0};
        for (int i = 0; i < texts.length; i++) {
            TippedIntoTheNextLap x = new TippedIntoTheNextLap();
            due(2, texts[i], say(x, texts[i]), -2000 - places[i]);
            due(2, "nobody by " + texts[i], x.count(0), 0);
            due(2, "hour by " + texts[i], x.count(1), 22);
        }
        TippedIntoTheNextLap x = with(FOUR);
        due(2, "960 rounds", say(x, "r60;r60;r60;r60;r60;r60;r60;r60;r60;r60;r60;r60;r60;r60;r60;r60;"), 16);
        due(2, "40 more are too many", say(x, "h12;r40;"), -2004);
        due(2, "trip as it was", x.count(2), 960);
        due(2, "hour as it was", x.count(1), 22);
        due(2, "39 more", say(x, "r39;"), 1);
        due(2, "999", x.count(2), 999);
        due(2, "none more", say(x, "r01;"), -2000);
        due(2, "nothing of it comes", say(x, "b0;t101;x03;p00;p88;"), -2016);
        due(2, "no block", x.count(4), 0);
        dueTips(2, x, 8, 1, 3, 0);
    }

    private static void seat() {
        TippedIntoTheNextLap x = with("p09;p19;p29;p39;p49;p59;p69;p79;");
        int[] knees = {2, 2, 9, 1, 2, 2, 0, 10};
        int[] can = {8, 1, 9, 8, 8, 10, 0, 0};
        int[] night = {1, 3, 5, 0, 1, 1, 0, 4};
        for (int i = 0; i < 8; i++) {
            due(3, "kind " + i, x.seat(i, 0), i);
            due(3, "figure " + i, x.seat(i, 1), 9);
            due(3, "tip " + i, x.seat(i, 2), 0);
            due(3, "blocked " + i, x.seat(i, 3), 0);
            due(3, "can " + i, x.seat(i, 4), can[i]);
            due(3, "knees " + i, x.seat(i, 5), knees[i]);
            due(3, "worth " + i, x.seat(i, 6), night[i]);
            due(3, "room " + i, x.seat(i, 7), 20);
        }
        x.tips(2, 7);
        x.blocks(3);
        due(3, "tip", x.seat(2, 2), 7);
        due(3, "room of him", x.seat(2, 7), 27);
        due(3, "room behind", x.seat(3, 7), 13);
        due(3, "blocked", x.seat(3, 3), 1);
        due(3, "can not", x.seat(3, 4), 0);
        int[] hours = {0, 5, 6, 12, 21, 22, 23};
        int[] sleeper = {3, 3, 1, 1, 1, 3, 3};
        for (int i = 0; i < hours.length; i++) {
            x.hour(hours[i]);
            due(3, "a sleeper at " + hours[i], x.seat(1, 6), sleeper[i]);
        }
        TippedIntoTheNextLap tall = with("p20;p22;p23;p24;p70;p72;p78;p00;");
        int[] tallKnees = {6, 6, 7, 7, 7, 7, 9, 2};
        int[] tallWorth = {1, 2, 2, 3, 0, 1, 4, 1};
        for (int i = 0; i < 8; i++) {
            due(3, "tall knees " + i, tall.seat(i, 5), tallKnees[i]);
            due(3, "tall worth " + i, tall.seat(i, 6), tallWorth[i]);
        }
        due(3, "row -1", x.seat(-1, 0), -1);
        due(3, "row 8", x.seat(8, 0), -1);
        due(3, "what -1", x.seat(0, -1), -1);
        due(3, "what 8", x.seat(0, 8), -1);
        due(3, "no such row", with("p00;").seat(1, 0), -1);
        due(3, "far off", x.seat(Integer.MAX_VALUE, 0), -1);
    }

    private static void comes() {
        TippedIntoTheNextLap x = new TippedIntoTheNextLap();
        x.keep(2, 1, 5, 4);
        for (int i = 0; i < 8; i++) {
            due(4, "row " + i, x.comes(2), i);
        }
        due(4, "full", x.comes(2), -2);
        due(4, "stays on the shelf", x.cost(2), 7);
        due(4, "kind", x.seat(7, 0), 5);
        due(4, "figure", x.seat(7, 1), 4);
        due(4, "nobody more", x.count(0), 8);
        due(4, "no shelf", x.comes(8), -1);
        due(4, "no shelf", x.comes(-1), -1);
        due(4, "nothing, though full", x.comes(3), -11);
        x.row(3, 0, 1);
        due(4, "a row, though full", x.comes(3), -12);
    }

    private static void tips() {
        TippedIntoTheNextLap x = with(FOUR);
        due(5, "was 0", x.tips(0, 8), 0);
        due(5, "was 8", x.tips(0, 3), 8);
        due(5, "above", x.tips(0, 9), -3);
        due(5, "10", x.tips(0, 10), -3);
        due(5, "all of it", x.tips(2, 10), 0);
        due(5, "11", x.tips(2, 11), -1);
        due(5, "below", x.tips(2, -1), -1);
        due(5, "last", x.tips(3, 1), -3);
        due(5, "last, upright", x.tips(3, 0), 0);
        due(5, "no row", x.tips(4, 0), -1);
        due(5, "no row", x.tips(-1, 0), -1);
        dueTips(5, x, 3, 0, 10, 0);
        x.blocks(0);
        due(5, "blocked", x.tips(0, 1), -3);
        due(5, "blocked, upright", x.tips(0, 0), 0);
    }

    private static void blocks() {
        TippedIntoTheNextLap x = with(FOUR + "r03;");
        due(6, "blocked", x.blocks(0), 1);
        dueTips(6, x, 0, 1, 3, 0);
        due(6, "bits", x.count(4), 1);
        due(6, "the last too", x.blocks(3), 1);
        due(6, "bits", x.count(4), 9);
        due(6, "not any more", x.blocks(0), 0);
        dueTips(6, x, 0, 1, 3, 0);
        due(6, "bits", x.count(4), 8);
        due(6, "no row", x.blocks(4), -1);
        due(6, "no row", x.blocks(-1), -1);
        due(6, "no row", x.blocks(33), -1);
    }

    private static void hour() {
        TippedIntoTheNextLap x = with(FOUR);
        due(7, "was 22", x.hour(0), 22);
        due(7, "was 0", x.hour(23), 0);
        due(7, "24", x.hour(24), -1);
        due(7, "-1", x.hour(-1), -1);
        due(7, "23", x.count(1), 23);
    }

    private static void change() {
        TippedIntoTheNextLap x = with(FOUR + "b1;r03;");
        due(8, "two", x.change(2, 0), 1);
        dueTips(8, x, 0, 0, 0, 0);
        due(8, "tall", x.seat(0, 0), 2);
        due(8, "figure", x.seat(0, 1), 9);
        due(8, "sleeper", x.seat(2, 0), 1);
        due(8, "figure", x.seat(2, 1), 3);
        due(8, "blocks stay with rows", x.count(4), 2);
        x.tips(0, 8);
        due(8, "one twice", x.change(1, 1), -1);
        due(8, "no row", x.change(0, 4), -1);
        due(8, "no row", x.change(-1, 0), -1);
        due(8, "as it was", x.seat(0, 2), 8);
    }

    private static void rounds() {
        TippedIntoTheNextLap x = with(FOUR);
        due(9, "one", x.rounds(1), 10);
        dueTips(9, x, 8, 0, 2, 0);
        due(9, "one more", x.rounds(1), 11);
        dueTips(9, x, 8, 1, 2, 0);
        due(9, "two more", x.rounds(2), 12);
        due(9, "trip", x.count(2), 4);
        due(9, "0", x.rounds(0), -1);
        due(9, "61", x.rounds(61), -1);
        due(9, "-1", x.rounds(-1), -1);
        for (int i = 0; i < 16; i++) {
            due(9, "60", x.rounds(60), 12);
        }
        due(9, "964", x.count(2), 964);
        due(9, "too many", x.rounds(36), -3);
        due(9, "none of them", x.count(2), 964);
        due(9, "35", x.rounds(35), 12);
        due(9, "999", x.count(2), 999);
        due(9, "one", x.rounds(1), -3);
        due(9, "61 is out of range first", x.rounds(61), -1);
        // CAN 8 8 8 9 4 10 0 0: SITTER, SHY, POLITE, SITTER, CHILD 6, TALL, BABY, STOPPER by day.
        TippedIntoTheNextLap wants = with("p00;p45;p55;p00;p36;p20;p69;p79;h12;t008;t108;t208;");
        due(9, "all kinds by day", wants.rounds(1), 21);
        dueTips(9, wants, 0, 4, 3, 8, 4, 2, 0, 0);
        due(9, "again", wants.rounds(1), 14);
        dueTips(9, wants, 0, 0, 1, 3, 4, 6, 0, 0);
        due(9, "again", wants.rounds(1), 11);
        dueTips(9, wants, 0, 0, 0, 1, 4, 6, 0, 0);
        due(9, "again", wants.rounds(1), 10);
        dueTips(9, wants, 0, 0, 0, 0, 4, 6, 0, 0);
        int[] hours = {21, 22, 23, 0, 5, 6};
        int[] sleeper = {0, 8, 8, 8, 8, 0};
        for (int i = 0; i < hours.length; i++) {
            TippedIntoTheNextLap sleeps = with("p10;p00;");
            sleeps.hour(hours[i]);
            due(9, "a sleeper at " + hours[i], sleeps.rounds(1), sleeper[i]);
        }
        TippedIntoTheNextLap day = with("p00;p10;p00;h12;t005;");
        due(9, "a sleeper by day as the one ahead", day.rounds(1), 5);
        dueTips(9, day, 0, 5, 0);
    }

    private static void behind() {
        TippedIntoTheNextLap x = with(FOUR);
        due(10, "now", x.behind(2, 0, 0), 0);
        due(10, "one", x.behind(2, 1, 0), 2);
        due(10, "two", x.behind(2, 2, 0), 2);
        due(10, "three", x.behind(2, 3, 0), 3);
        due(10, "sixty", x.behind(2, 60, 0), 3);
        due(10, "room", x.behind(2, 3, 1), 22);
        due(10, "room", x.behind(1, 1, 1), 12);
        due(10, "room now", x.behind(1, 0, 1), 20);
        due(10, "in mind", x.count(2), 0);
        dueTips(10, x, 0, 0, 0, 0);
        due(10, "61", x.behind(0, 61, 0), -1);
        due(10, "-1", x.behind(0, -1, 0), -1);
        due(10, "row", x.behind(4, 0, 0), -1);
        due(10, "row", x.behind(-1, 0, 0), -1);
        due(10, "what", x.behind(0, 0, 2), -1);
        due(10, "what", x.behind(0, 0, -1), -1);
        TippedIntoTheNextLap late = with(FOUR + "r60;r60;r60;r60;r60;r60;r60;r60;r60;");
        say(late, "r60;r60;r60;r60;r60;r60;r60;");
        late.rounds(39);
        due(10, "trip no matter", late.behind(2, 60, 0), 3);
    }

    private static void still() {
        TippedIntoTheNextLap x = with(FOUR);
        due(11, "three", x.still(), 3);
        x.rounds(1);
        due(11, "two", x.still(), 2);
        x.rounds(2);
        due(11, "0", x.still(), 0);
        due(11, "nobody", new TippedIntoTheNextLap().still(), 0);
        due(11, "one row after the other", with("p10;p00;p00;p00;p00;p00;p00;p00;").still(), 7);
    }

    private static void run() {
        TippedIntoTheNextLap x = with(FOUR);
        due(12, "now", x.run(0, 0), 0);
        due(12, "one", x.run(0, 1), 1);
        due(12, "one, from 2", x.run(2, 1), 1);
        due(12, "two", x.run(0, 2), 3);
        due(12, "from 1", x.run(1, 2), 2);
        due(12, "last", x.run(3, 60), 0);
        due(12, "row", x.run(4, 0), -1);
        due(12, "row", x.run(-1, 0), -1);
        due(12, "61", x.run(0, 61), -1);
        due(12, "-1", x.run(0, -1), -1);
    }

    private static void longest() {
        TippedIntoTheNextLap x = with(FOUR);
        due(13, "none", x.longest(0, 0), -4);
        due(13, "0", x.longest(0, 1), 0);
        due(13, "two of one each: the least", x.longest(1, 0), 0);
        due(13, "one", x.longest(1, 1), 1);
        due(13, "three", x.longest(2, 1), 3);
        due(13, "61", x.longest(61, 0), -1);
        due(13, "-1", x.longest(-1, 1), -1);
        due(13, "what", x.longest(0, 2), -1);
        due(13, "what", x.longest(0, -1), -1);
        TippedIntoTheNextLap y = with("p31;p00;b1;p00;p31;p31;p00;h12;r01;");
        dueTips(13, y, 1, 0, 0, 1, 1, 0);
        due(13, "the longer one", y.longest(0, 0), 3);
        due(13, "two", y.longest(0, 1), 2);
    }

    private static void began() {
        TippedIntoTheNextLap x = with(FOUR);
        // 8 1 3 as it is; blocked 0: 0 0 2; 1: 8 0 2; 2: 8 1 0.
        due(14, "the sleeper", x.began(5), 0);
        due(14, "nothing now", x.began(0), -4);
        x.rounds(3);
        due(14, "now", x.began(0), 0);
        x.blocks(0);
        // 0 1 3 now: behind 1 round 0 0 3; of rows 1 and 2 the one with the 3.
        due(14, "1 behind", x.began(1), 2);
        due(14, "in mind", x.count(4), 1);
        dueTips(14, x, 0, 1, 3, 0);
        due(14, "nobody", new TippedIntoTheNextLap().began(60), -4);
        due(14, "61", x.began(61), -1);
        due(14, "-1", x.began(-1), -1);
        due(14, "of several the least", with("p31;p31;p00;r01;").began(0), 0);
    }

    private static void lost() {
        TippedIntoTheNextLap x = with(FOUR);
        due(15, "now", x.lost(0), 0);
        due(15, "one", x.lost(1), 24 - 8 + 10);
        due(15, "two", x.lost(2), 24 - 7 + 5);
        due(15, "three", x.lost(3), 24 - 7 + 10);
        x.tips(1, 1);
        due(15, "now", x.lost(0), 1 - 5);
        due(15, "61", x.lost(61), REFUSED_1);
        due(15, "-1", x.lost(-1), REFUSED_1);
        due(15, "below 0", with("p39;p20;h12;r01;").lost(0), -4);
    }

    private static void best() {
        TippedIntoTheNextLap x = with(FOUR);
        due(16, "joy", x.best(-1), 16 + 50);
        int[] tips = {8, 0, 10, 0};
        for (int i = 0; i < 4; i++) {
            due(16, "row " + i, x.best(i), tips[i]);
        }
        x.blocks(2);
        due(16, "blocked", x.best(-1), 16);
        due(16, "row 2", x.best(2), 0);
        x.hour(12);
        due(16, "as good: least", x.best(0), 0);
        due(16, "joy", x.best(-1), 0);
        due(16, "row 4", x.best(4), REFUSED_1);
        due(16, "row -2", x.best(-2), REFUSED_1);
        due(16, "nobody", new TippedIntoTheNextLap().best(-1), 0);
        due(16, "nobody's row", new TippedIntoTheNextLap().best(0), REFUSED_1);
    }

    private static void laws() {
        TippedIntoTheNextLap x = with(FOUR);
        due(17, "as they want", x.laws(0), 27);
        due(17, "none", x.laws(1), 0);
        due(17, "all they can", x.laws(2), 24 - 7 + 45);
        due(17, "most", x.laws(-1), 2);
        due(17, "3", x.laws(3), REFUSED_1);
        due(17, "-2", x.laws(-2), REFUSED_1);
        due(17, "of several the least", with("p00;p00;").laws(-1), 0);
        // A child takes from a tall one: 2 of it as he wants, 4 as far as he can.
        TippedIntoTheNextLap y = with("p32;p20;");
        due(17, "0 loses", y.laws(0), -2);
        due(17, "2 loses", y.laws(2), -4);
        due(17, "none is best", y.laws(-1), 1);
    }

    private static void pays() {
        TippedIntoTheNextLap x = with(FOUR + "r03;");
        due(18, "0", x.pays(0), 8 - 24);
        due(18, "1", x.pays(1), 5 - 1);
        due(18, "2", x.pays(2), 0 - 15);
        due(18, "last", x.pays(3), REFUSED_1);
        due(18, "row -1", x.pays(-1), REFUSED_1);
        due(18, "row max", x.pays(Integer.MAX_VALUE), REFUSED_1);
        due(18, "nobody", new TippedIntoTheNextLap().pays(0), REFUSED_1);
        x.hour(12);
        due(18, "by day", x.pays(0), 0);
    }

    private static void price() {
        TippedIntoTheNextLap x = with(FOUR + "r03;");
        due(19, "0", x.price(0), 16);
        due(19, "1", x.price(1), 3);
        due(19, "2, cut", x.price(2), 7);
        due(19, "last", x.price(3), REFUSED_1);
        due(19, "row -1", x.price(-1), REFUSED_1);
        x.tips(0, 0);
        due(19, "who does not tip", x.price(0), 0);
    }

    private static void order() {
        TippedIntoTheNextLap x = with("p20;p32;h12;");
        // As they sit: TALL (CAN 9) wants 2: 1 * 2 - 0 = 2. The child ahead: 2 of it, -2.
        due(20, "joy", x.order(1, -1), 2);
        due(20, "row 0", x.order(1, 0), 0);
        due(20, "row 1", x.order(1, 1), 1);
        TippedIntoTheNextLap y = with("p32;p20;h12;");
        due(20, "joy", y.order(9, -1), 2);
        due(20, "row 0", y.order(9, 0), 1);
        due(20, "row 1", y.order(9, 1), 0);
        due(20, "0 rounds: the first", y.order(0, 0), 0);
        due(20, "0 rounds", y.order(0, -1), 0);
        due(20, "as they sat", y.seat(0, 0), 3);
        y.blocks(0);
        due(20, "the block stays", y.order(9, -1), 0);
        due(20, "and the first is best", y.order(9, 0), 0);
        due(20, "10", y.order(10, 0), REFUSED_1);
        due(20, "-1", y.order(-1, 0), REFUSED_1);
        due(20, "row 2", y.order(0, 2), REFUSED_1);
        due(20, "row -2", y.order(0, -2), REFUSED_1);
        TippedIntoTheNextLap six = with("p00;p00;p00;p00;p00;p00;");
        due(20, "six", six.order(9, 5), 5);
        say(six, "p00;");
        due(20, "seven", six.order(9, 5), REFUSED_3);
        due(20, "seven", six.order(9, -1), REFUSED_3);
        due(20, "no row first", six.order(9, 7), REFUSED_1);
        due(20, "nobody", new TippedIntoTheNextLap().order(0, -1), 0);
        // Only the last of all orders: SLEEPER 10, BABY 0, TALL 2 4 6, POLITE: 30 + 0 + 10 + 8 + 4 - 6.
        TippedIntoTheNextLap last = with("p51;p22;p27;p29;p61;p18;");
        due(20, "the last order", last.order(9, -1), 46);
        for (int i = 0; i < 6; i++) {
            due(20, "the last order, row " + i, last.order(9, i), 5 - i);
        }
        due(20, "from tips 0", with("p00;p30;t009;").order(0, -1), 0);
    }

    private static void swap() {
        TippedIntoTheNextLap x = with("p32;p20;h12;");
        due(21, "both", x.swap(1), 1);
        due(21, "0 rounds", x.swap(0), -4);
        x.change(0, 1);
        due(21, "none is better", x.swap(60), -4);
        x.change(0, 1);
        x.blocks(0);
        due(21, "the block stays", x.swap(60), -4);
        due(21, "61", x.swap(61), -1);
        due(21, "-1", x.swap(-1), -1);
        due(21, "as they sat", x.seat(0, 0), 3);
        // SLEEPER, SITTER, TALL 9, BABY: 27 as they sit (see run 2 under ../shared/tests).
        due(21, "four", with(FOUR).swap(3), 13);
        due(21, "nobody", new TippedIntoTheNextLap().swap(3), -4);
        // From TIPS 0 they have 0 both ways; TIPS as now count nothing.
        due(21, "from tips 0", with("p00;p30;t009;h12;").swap(0), -4);
    }

    private static void stops() {
        TippedIntoTheNextLap x = with(FOUR);
        due(22, "0 and 2", x.stops(1), 5);
        due(22, "0 and 2", x.stops(60), 5);
        x.hour(12);
        due(22, "2", x.stops(3), 4);
        x.blocks(2);
        due(22, "none", x.stops(1), 0);
        due(22, "0", x.stops(0), -1);
        due(22, "61", x.stops(61), -1);
        due(22, "nobody", new TippedIntoTheNextLap().stops(1), 0);
        due(22, "in mind", x.count(4), 4);
        // 8 now, that go to the one behind in a round: either alone stops it; the least.
        due(22, "of several the least", with("p00;p00;p30;h12;t008;").stops(1), 1);
        due(22, "of several the least", with("p31;p00;p00;h12;").stops(2), 1);
    }

    private static void ask() {
        TippedIntoTheNextLap x = with(FOUR);
        // Nobody asked 27; 0: 10; 1: 24 - 8 + 10 = 26; 2: 24 - 7 - 5 = 12; 3: 27.
        due(23, "the baby", x.ask(5), 3);
        due(23, "now all the same", x.ask(0), 0);
        due(23, "nobody", new TippedIntoTheNextLap().ask(0), -4);
        due(23, "61", x.ask(61), -1);
        due(23, "-1", x.ask(-1), -1);
        TippedIntoTheNextLap y = with("p00;p39;p20;h12;");
        // The child's 4 are all that is lost.
        due(23, "the child", y.ask(1), 1);
        y.tips(0, 3);
        y.tips(1, 4);
        due(23, "now", y.ask(0), 1);
        due(23, "in mind", y.count(3), 7);
    }

    private static void bestHour() {
        TippedIntoTheNextLap x = with(FOUR);
        // By night 27; by day 0 0 2: 10.
        due(24, "by night", x.bestHour(3), 0);
        // By night the sleeper takes 1 (CAN) from a TALL 9: 3 - 5; by day none.
        TippedIntoTheNextLap y = with("p10;p29;");
        due(24, "1 to tip", y.bestHour(1), 6);
        due(24, "now all the same", y.bestHour(0), 0);
        due(24, "nobody", new TippedIntoTheNextLap().bestHour(0), 0);
        due(24, "61", x.bestHour(61), -1);
        due(24, "-1", x.bestHour(-1), -1);
        due(24, "in mind", x.count(1), 22);
    }

    private static void two() {
        TippedIntoTheNextLap x = with(FOUR);
        due(25, "both would", x.two(0), 11);
        due(25, "both would", x.two(1), 11);
        due(25, "the baby can not", x.two(2), 10);
        due(25, "last", x.two(3), -1);
        due(25, "row -1", x.two(-1), -1);
        due(25, "row 4", x.two(4), -1);
        due(25, "row max", x.two(Integer.MAX_VALUE), -1);
        x.blocks(1);
        due(25, "blocked", x.two(0), 10);
        due(25, "a child does not mind", with("p39;p00;p00;").two(0), 1);
        dueTips(25, x, 0, 0, 0, 0);
    }

    private static void looksRound() {
        TippedIntoTheNextLap x = with(FOUR + "r03;");
        // TIPS 8 1 3 next; the TALL one sees the BABY with 1 in 4: 9.
        long[][] due = {{8, 0, 1}, {9, 1, 4}, {11, 1, 4}, {12, 1, 1}, {80, 1, 1}, {0, 0, 1}};
        for (int i = 0; i < due.length; i++) {
            due(26, "above, " + due[i][0], x.looksRound(4, (int) due[i][0], 0), due[i][1]);
            due(26, "below, " + due[i][0], x.looksRound(4, (int) due[i][0], 1), due[i][2]);
        }
        // CHILDREN 2 4 6 9 and a SITTER: 2 4 6 8; the first three look round.
        TippedIntoTheNextLap y = with("p32;p34;p36;p39;p00;h12;");
        // Of 2 4 6 at most 4 (8 of the fourth always): 0, 2, 4: 1 + 19 + 19 of 8000.
        due(26, "above", y.looksRound(20, 13, 0), 39);
        due(26, "below", y.looksRound(20, 13, 1), 8000);
        due(26, "least terms", y.looksRound(2, 13, 0), 3);
        due(26, "least terms", y.looksRound(2, 13, 1), 8);
        due(26, "half", y.looksRound(2, 14, 0), 5);
        due(26, "half", y.looksRound(2, 15, 0), 5);
        due(26, "6", y.looksRound(2, 17, 0), 3);
        due(26, "6", y.looksRound(2, 17, 1), 4);
        due(26, "t 1", y.looksRound(1, 0, 0), REFUSED_1);
        due(26, "t 21", y.looksRound(21, 0, 0), REFUSED_1);
        due(26, "v -1", y.looksRound(2, -1, 0), REFUSED_1);
        due(26, "v 81", y.looksRound(2, 81, 0), REFUSED_1);
        due(26, "part 2", y.looksRound(2, 0, 2), REFUSED_1);
        due(26, "part -1", y.looksRound(2, 0, -1), REFUSED_1);
        due(26, "nobody", new TippedIntoTheNextLap().looksRound(2, 0, 1), 1);
        // Seven that look round, with 9 each, but the one ahead of the BABY: all of 20 to the seventh.
        TippedIntoTheNextLap all = with("p39;p39;p39;p39;p39;p39;p39;p69;");
        due(26, "many", all.looksRound(20, 0, 1), 1280000000L);
        due(26, "one", all.looksRound(20, 0, 0), 1);
        due(26, "all but all", all.looksRound(20, 62, 0), 1280000000L - 893871739L);
        due(26, "all but all", all.looksRound(20, 62, 1), 1280000000L);
    }

    private static void whatIs() {
        TippedIntoTheNextLap x = with("p00;p00;p00;h12;t008;");
        int least = -2147483648;
        numbers(x, 0, 2, 0, 8);
        // Behind one round of 8 ahead: SITTER, SLEEPER by day, TALL (10, CAN 8); a CHILD with his figure tips 0.
        due(27, "kinds", x.whatIs(0, 1, 0), 0b0111);
        due(27, "figures", x.whatIs(0, 1, 1), 0b1111111111);
        numbers(x, 0, 2, 0, 8, 2);
        due(27, "tall", x.whatIs(0, 1, 0), 0b0100);
        due(27, "no figure of a sitter", x.whatIs(0, 1, 1), 0);
        numbers(x, 0, 2, 0, 8, 8);
        due(27, "a child with another figure", x.whatIs(0, 1, 0), 0);
        due(27, "a figure of another kind", x.whatIs(0, 1, 1), 0);
        numbers(x, 0, 2, least, 4, 0);
        due(27, "shy", x.whatIs(0, 1, 0), 0b10000);
        numbers(x, 0, 2, least, 3, 0);
        due(27, "polite", x.whatIs(0, 1, 0), 0b100000);
        numbers(x, 0, 2, least, 0);
        // A child of figure 0, a baby and a stopper tip none; knees behind no matter yet.
        due(27, "those who tip none", x.whatIs(0, 1, 0), 0b11001000);
        due(27, "a sitter tips", x.whatIs(0, 1, 1), 0);
        numbers(x, 0, 1, 1, 8);
        due(27, "not as it is now", x.whatIs(0, 1, 0), 0);
        due(27, "not as it is now", x.whatIs(0, 1, 1), 0);
        numbers(x, 0, 1);
        due(27, "nothing told", x.whatIs(0, 1, 0), 255);
        due(27, "nothing told", x.whatIs(0, 1, 1), 1023);
        numbers(x, 0, 1, -32768, -32768);
        due(27, "all skipped", x.whatIs(0, 1, 0), 255);
        numbers(x, 0, 0, -128, 8, 2);
        due(27, "bytes", x.whatIs(0, 1, 0), 0b0100);
        numbers(x, 0, 2, -128, 8, 2);
        due(27, "-128 is no least int", x.whatIs(0, 1, 0), 0);
        x.row(0, 2, 100);
        due(27, "99 rounds in the last row", x.whatIs(0, 2, 0), 255);
        due(27, "no shelf", x.whatIs(8, 0, 0), -1);
        due(27, "no row", x.whatIs(0, 3, 0), -1);
        due(27, "what", x.whatIs(0, 0, 2), -1);
        due(27, "no row, ahead of nothing held", x.whatIs(5, -1, 0), -1);
        due(27, "nothing", x.whatIs(5, 0, 0), -11);
        x.keep(5, 1, 0, 0);
        due(27, "a kind", x.whatIs(5, 0, 0), -12);
        // His knees show by the one ahead: a sleeper with a stopper 9 behind can not tip.
        TippedIntoTheNextLap y = with("p10;p00;p30;");
        numbers(y, 0, 2, 0, least, 0);
        due(27, "who tips none behind any", y.whatIs(0, 1, 0), 0b11001000);
        numbers(y, 0, 2, 0, 0, 1);
        // Whom the sleeper gives 1 (CAN): TALL wants 2 at once; SITTER's knees leave 8.
        due(27, "none", y.whatIs(0, 1, 0), 0);
        numbers(y, 0, 2, 0, 2, 3);
        due(27, "tall of figure 9 alone", y.whatIs(0, 1, 0), 0);
        due(27, "sitters are not tall", y.whatIs(0, 1, 1), 0);
        TippedIntoTheNextLap tall = with("p10;p29;p30;");
        numbers(tall, 0, 2, 0, 2, 3);
        due(27, "tall behind 1 of the sleeper", tall.whatIs(0, 1, 0), 0b100);
        due(27, "knees 9", tall.whatIs(0, 1, 1), 0b1000000000);
        // A CHILD of 8 or 9 tips 8 behind each ROUND (CAN 8); all others look at the one ahead, who tips 0 then.
        TippedIntoTheNextLap child = with("p00;p38;p00;h12;t008;");
        numbers(child, 0, 2, 0, 8, 8);
        due(27, "child", child.whatIs(0, 1, 0), 0b1000);
        due(27, "8 or 9", child.whatIs(0, 1, 1), 0b1100000000);
        numbers(child, 0, 2, 0, 5);
        due(27, "child of 5, but he is of 8", child.whatIs(0, 1, 0), 0);
        due(27, "5", child.whatIs(0, 1, 1), 0b100000);
        // A sleeper by night tips 8 whatever his figure; a child of figure 0 would tip 0.
        TippedIntoTheNextLap sleeper = with("p00;p10;p00;");
        numbers(sleeper, 0, 0, 0, 0);
        due(27, "no figure keeps him awake", sleeper.whatIs(0, 1, 1), 0);
        // Behind no tip ahead: SITTER, CHILD 0, SHY, POLITE, BABY, STOPPER; SLEEPER 8, TALL 2.
        due(27, "kinds with figure 0", sleeper.whatIs(0, 1, 0), 0b11111001);
    }

    private static void mean() {
        TippedIntoTheNextLap x = with(FOUR + "r03;");
        due(28, "above", x.mean(0), 20);
        due(28, "below", x.mean(1), 1);
        due(28, "nobody", new TippedIntoTheNextLap().mean(0), 0);
        due(28, "nobody", new TippedIntoTheNextLap().mean(1), 1);
        due(28, "part", x.mean(2), REFUSED_1);
        due(28, "part", x.mean(-1), REFUSED_1);
    }

    private static void tightest() {
        TippedIntoTheNextLap x = with(FOUR);
        due(29, "of several the least", x.tightest(0), 0);
        due(29, "upright", x.tightest(1), 20);
        x.rounds(3);
        due(29, "behind the sleeper", x.tightest(0), 1);
        due(29, "13", x.tightest(1), 13);
        due(29, "what", x.tightest(2), -1);
        due(29, "what", x.tightest(-1), -1);
        due(29, "nobody", new TippedIntoTheNextLap().tightest(0), -4);
        due(29, "nobody", new TippedIntoTheNextLap().tightest(1), -4);
    }

    private static void forged() {
        TippedIntoTheNextLap x = with(FOUR);
        numbers(x, 0, 0, 8, 1, 10, 0);
        due(30, "all can", x.forged(0), -4);
        numbers(x, 0, 1, 8, 2, 10, 1);
        due(30, "1", x.forged(0), 1);
        numbers(x, 0, 2, 8, 1, 10, 1);
        due(30, "last", x.forged(0), 3);
        numbers(x, 0, 2, 8, 1, 10, 0, 0);
        due(30, "no such row", x.forged(0), 4);
        numbers(x, 0, 2, 0, -1);
        due(30, "below", x.forged(0), 1);
        numbers(x, 0, 0, -128);
        due(30, "none is skipped", x.forged(0), 0);
        numbers(x, 0, 0);
        due(30, "nothing told", x.forged(0), -4);
        x.blocks(2);
        numbers(x, 0, 2, 8, 1, 1);
        due(30, "blocked", x.forged(0), 2);
        due(30, "no shelf", x.forged(8), -1);
        due(30, "nothing", x.forged(1), -11);
        x.keep(1, 1, 0, 0);
        due(30, "a kind", x.forged(1), -12);
    }

    private static void judge() {
        TippedIntoTheNextLap x = with(FOUR);
        numbers(x, 0, 0, 0, 10, 11, 12, 12);
        due(31, "all so", x.judge(0), -4);
        numbers(x, 0, 0, 1, 10);
        due(31, "0", x.judge(0), 0);
        numbers(x, 0, 0, 0, 10, 12);
        due(31, "2", x.judge(0), 2);
        numbers(x, 0, 0, -128, -128, 12, 13);
        due(31, "skipped", x.judge(0), 2);
        numbers(x, 0, 1, -32768, 10, -32768, 12);
        due(31, "shorts", x.judge(0), -4);
        numbers(x, 0, 2, -2147483648, 10, -32768);
        due(31, "no least int", x.judge(0), 2);
        numbers(x, 0, 0);
        due(31, "nothing told", x.judge(0), -4);
        x.rounds(3);
        x.row(0, 0, 100);
        for (int i = 0; i < 100; i++) {
            x.put(0, i, i < 99 ? 12 : 11);
        }
        due(31, "99 rounds on", x.judge(0), 99);
        due(31, "in mind", x.count(2), 3);
        due(31, "no shelf", x.judge(-1), -1);
        due(31, "nothing", x.judge(1), -11);
        x.keep(1, 1, 0, 0);
        due(31, "a kind", x.judge(1), -12);
    }

    private static void trips() {
        // From z 0 on, over 65536: 0 (hour 0), 21468, 9988, 22117 (3, 3, 2 by 5: none blocked);
        // 3498 (hour 18), 16927, 16045, 19741 (2, 0, 1: row 1); 12122 (hour 2), 8410, 12261, 27052 (0, 1, 2: row 0).
        TippedIntoTheNextLap x = with("p10;p00;p30;h12;t005;b2;");
        due(32, "one trip: hour 0, none blocked: 8 8", x.trips(1, 0, 0), 16);
        due(32, "two rows", x.trips(1, 0, 1), 2);
        due(32, "the next by day, then the sleeper blocked", x.trips(3, 0, 0), 16);
        TippedIntoTheNextLap y = with("p35;p00;p30;");
        due(32, "5 5", y.trips(1, 0, 0), 10);
        due(32, "5 0", y.trips(2, 0, 0), 15);
        due(32, "0 0", y.trips(3, 0, 0), 15);
        due(32, "rows", y.trips(1, 0, 1), 2);
        due(32, "rows", y.trips(3, 0, 1), 3);
        due(32, "in mind", x.count(3), 5);
        due(32, "in mind", x.count(4), 4);
        due(32, "in mind", x.count(1), 12);
        due(32, "0", x.trips(0, 0, 0), -1);
        due(32, "21", x.trips(21, 0, 0), -1);
        due(32, "what", x.trips(1, 0, 2), -1);
        due(32, "what", x.trips(1, 0, -1), -1);
        due(32, "nobody", new TippedIntoTheNextLap().trips(1, 0, 0), -3);
        due(32, "nobody, 0", new TippedIntoTheNextLap().trips(0, 0, 0), -1);
    }

    private static void image() {
        TippedIntoTheNextLap x = with(FOUR + "b3;h23;r03;");
        due(33, "trip", x.image(), 3);
        x.rounds(5);
        x.change(0, 2);
        x.blocks(0);
        x.hour(7);
        x.keep(0, 1, 7, 1);
        x.comes(0);
        due(34, "trip", x.restore(), 3);
        dueTips(34, x, 8, 1, 3, 0);
        due(34, "kind", x.seat(0, 0), 1);
        due(34, "figure", x.seat(0, 1), 3);
        due(34, "hour", x.count(1), 23);
        due(34, "blocked", x.count(4), 8);
        due(34, "trip", x.count(2), 3);
        due(34, "shelves stay", x.cost(0), 10);
        x.rounds(1);
        due(34, "the image stays", x.restore(), 3);
        x.rounds(1);
        due(33, "a later one", x.image(), 4);
        x.rounds(1);
        due(34, "a later one", x.restore(), 4);
        due(34, "none", with(FOUR).restore(), -3);
    }

    private static void count() {
        TippedIntoTheNextLap x = with(FOUR + "b3;h23;r03;");
        int[] counts = {4, 23, 3, 12, 8, 80, 7};
        for (int i = 0; i < counts.length; i++) {
            due(35, "count(" + i + ")", x.count(i), counts[i]);
        }
        due(35, "7", x.count(7), -1);
        due(35, "-1", x.count(-1), -1);
        x.blocks(1);
        due(35, "rows that tip", x.count(6), 5);
        due(35, "blocked", x.count(4), 10);
    }

    private static void keep() {
        TippedIntoTheNextLap x = new TippedIntoTheNextLap();
        due(36, "a kind", x.keep(0, 1, 7, 9), 0);
        due(36, "kind 8", x.keep(0, 1, 8, 0), -1);
        due(36, "kind -1", x.keep(0, 1, -1, 0), -1);
        due(36, "figure 10", x.keep(0, 1, 0, 10), -1);
        due(36, "figure -1", x.keep(0, 1, 0, -1), -1);
        due(36, "what 2", x.keep(0, 2, 0, 0), -1);
        due(36, "what -1", x.keep(0, -1, 0, 0), -1);
        due(36, "shelf 8", x.keep(8, 1, 0, 0), -1);
        due(36, "shelf -1", x.keep(-1, 0, 0, 0), -1);
        due(36, "as it was", x.cost(0), 10);
        due(36, "nothing, the others no matter", x.keep(0, 0, 99, -5), 0);
        due(36, "nothing", x.cost(0), -11);
        x.row(0, 0, 3);
        due(36, "in place of a row", x.keep(0, 1, 3, 0), 0);
        due(36, "a child", x.cost(0), 1);
        due(36, "no row any more", x.put(0, 0, 0), -12);
    }

    private static void row() {
        TippedIntoTheNextLap x = new TippedIntoTheNextLap();
        due(37, "a row", x.row(0, 2, 100), 0);
        due(37, "place 99", x.put(0, 99, 5), 0);
        due(37, "place 100", x.put(0, 100, 5), -13);
        due(37, "101", x.row(0, 0, 101), -1);
        due(37, "-1", x.row(0, 0, -1), -14);
        due(37, "sort 3", x.row(0, 3, 1), -1);
        due(37, "sort -1", x.row(0, -1, -1), -1);
        due(37, "shelf 8", x.row(8, 0, -1), -1);
        due(37, "shelf -1", x.row(-1, 0, 0), -1);
        due(37, "as it was", x.element(0, 99), 5);
        due(37, "anew", x.row(0, 2, 100), 0);
        due(37, "0 at first", x.element(0, 99), 0);
        due(37, "no element", x.row(0, 2, 0), 0);
        due(37, "none", x.put(0, 0, 1), -13);
        x.keep(0, 1, 0, 0);
        due(37, "in place of a kind", x.row(0, 0, 1), 0);
        due(37, "no kind any more", x.cost(0), -12);
    }

    private static void put() {
        TippedIntoTheNextLap x = new TippedIntoTheNextLap();
        int[] values = {0, 127, 128, 255, 256, -129, 70000, -70000, 2147483647, -2147483648};
        for (int sort = 0; sort < 3; sort++) {
            x.row(sort, sort, 3);
            for (int v : values) {
                due(38, "put", x.put(sort, 2, v), 0);
                due(38, "sort " + sort + ", " + v, x.element(sort, 2), sort == 0 ? (byte) v : sort == 1 ? (short) v : v);
            }
        }
        due(38, "place 3", x.put(0, 3, 0), -13);
        due(38, "place -1", x.put(0, -1, 0), -13);
        due(38, "no shelf", x.put(8, 0, 0), -1);
        due(38, "no shelf", x.put(-1, 0, 0), -1);
        due(38, "nothing", x.put(7, 0, 0), -11);
        x.keep(7, 1, 0, 0);
        due(38, "a kind", x.put(7, 0, 0), -12);
    }

    private static void element() {
        TippedIntoTheNextLap x = new TippedIntoTheNextLap();
        numbers(x, 1, 2, 5, -6, 7);
        due(39, "0", x.element(1, 0), 5);
        due(39, "1", x.element(1, 1), -6);
        due(39, "2", x.element(1, 2), 7);
        due(39, "place 3", thrown(x, 1, 3), 2);
        due(39, "place -1", thrown(x, 1, -1), 2);
        due(39, "no shelf", thrown(x, 8, 0), 1);
        due(39, "no shelf", thrown(x, -1, 0), 1);
        due(39, "nothing", thrown(x, 2, 0), 2);
        x.keep(2, 1, 0, 0);
        due(39, "a kind", thrown(x, 2, 0), 2);
    }

    private static void copy() {
        TippedIntoTheNextLap x = new TippedIntoTheNextLap();
        numbers(x, 0, 1, 1, 2, 3, 4, 5);
        x.row(1, 1, 3);
        due(40, "two", x.copy(0, 3, 1, 1, 2), 2);
        due(40, "0", x.element(1, 0), 0);
        due(40, "1", x.element(1, 1), 4);
        due(40, "2", x.element(1, 2), 5);
        due(40, "onto itself", x.copy(0, 0, 0, 1, 4), 4);
        for (int i = 0; i < 5; i++) {
            due(40, "onto itself " + i, x.element(0, i), i == 0 ? 1 : i);
        }
        due(40, "none", x.copy(0, 5, 1, 3, 0), 0);
        due(40, "6", x.copy(0, 6, 1, 0, 0), -13);
        due(40, "4", x.copy(0, 0, 1, 4, 0), -13);
        due(40, "too many", x.copy(0, 0, 1, 0, 4), -13);
        due(40, "too many", x.copy(1, 1, 0, 0, 3), -13);
        due(40, "n below", x.copy(0, 0, 1, 0, -1), -13);
        due(40, "i below", x.copy(0, -1, 1, 0, 1), -13);
        due(40, "j below", x.copy(0, 0, 1, -1, 1), -13);
        due(40, "far", x.copy(0, 2147483647, 1, 2147483647, 2147483647), -13);
        due(40, "no shelf", x.copy(8, 0, 1, 0, 1), -1);
        due(40, "no shelf, though nothing", x.copy(5, 0, -1, 0, 1), -1);
        due(40, "nothing", x.copy(5, 0, 1, 0, 1), -11);
        due(40, "nothing", x.copy(0, 0, 5, 0, 1), -11);
        x.keep(4, 1, 0, 0);
        due(40, "nothing goes first", x.copy(4, 0, 5, 0, 1), -11);
        due(40, "a kind", x.copy(4, 0, 1, 0, 1), -12);
        due(40, "a kind", x.copy(1, 0, 4, 0, 1), -12);
        due(40, "kinds", x.copy(4, 0, 4, 0, 0), -12);
        x.row(3, 1, 3);
        x.keep(3, 1, 0, 0);
        due(40, "a kind where such a row was", x.copy(3, 0, 1, 0, 1), -12);
        due(40, "a kind where such a row was", x.copy(1, 0, 3, 0, 1), -12);
        x.row(2, 0, 3);
        due(40, "two sorts", x.copy(1, 0, 2, 0, 9), -12);
        due(40, "as it was", x.element(2, 0), 0);
    }

    private static void cost() {
        TippedIntoTheNextLap x = new TippedIntoTheNextLap();
        int[] costs = {3, 10, 5, 1, 1, 7, 8, 10};
        for (int k = 0; k < 8; k++) {
            x.keep(0, 1, k, 7);
            due(41, "kind " + k, x.cost(0), costs[k]);
        }
        due(41, "no shelf", x.cost(8), -1);
        due(41, "no shelf", x.cost(-1), -1);
        due(41, "nothing", x.cost(1), -11);
        x.row(1, 2, 0);
        due(41, "a row", x.cost(1), -12);
    }

    private static void toss() {
        TippedIntoTheNextLap x = new TippedIntoTheNextLap();
        int[] tossed = {7, 7, 107, -15, 7, 7, -15, 210};
        for (int k = 0; k < 8; k++) {
            x.keep(0, 1, k, 7);
            due(42, "kind " + k, x.toss(0), tossed[k]);
            x.keep(0, 1, k, 0);
            due(42, "kind " + k + " with 0", x.toss(0), -15);
        }
        due(42, "no shelf", x.toss(8), -1);
        due(42, "no shelf", x.toss(-1), -1);
        due(42, "nothing", x.toss(1), -11);
        x.row(1, 2, 0);
        due(42, "a row", x.toss(1), -12);
    }
}
