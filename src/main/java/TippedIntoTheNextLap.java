import java.util.Arrays;

/** A coach by night: rows of people, how far each tips back, and what comes of it; see ../shared/DOC.md. */
public final class TippedIntoTheNextLap {
    private static final int NO_SUCH = -1;
    private static final int NO_ROOM = -2;
    private static final int NOT_SO = -3;
    private static final int NONE = -4;
    private static final int NOTHING_HELD = -11;
    private static final int OTHER_KIND = -12;
    private static final int NO_PLACE = -13;
    private static final int SIZE_BELOW_0 = -14;
    private static final int NO_FAILURE = -15;
    /** Where answers may be below 0 themselves, refusals stand this far up. */
    private static final int REFUSED = 1000000000;

    private static final int SITTER = 0;
    private static final int SLEEPER = 1;
    private static final int TALL = 2;
    private static final int CHILD = 3;
    private static final int SHY = 4;
    private static final int POLITE = 5;
    private static final int BABY = 6;
    private static final int STOPPER = 7;
    private static final int KINDS = 8;
    private static final int FIGURES = 10;

    private static final int ROWS = 8;
    private static final int MOST_TIP = 10;
    private static final int MOST_TIPS = ROWS * MOST_TIP;
    private static final int UPRIGHT_ROOM = 20;
    private static final int HOURS = 24;
    private static final int MOST_ROUNDS = 60;
    private static final int MOST_TRIP = 999;
    private static final int LAWS = 3;
    private static final int MOST_ORDERED = 6;
    private static final int ORDERS = 720;
    private static final int MOST_ORDER_ROUNDS = 9;

    private static final int SHELVES = 8;
    private static final int ROW_ROOM = 100;
    private static final int BYTES = 0;
    private static final int SHORTS = 1;
    private static final int INTS = 2;

    private final Coach now = new Coach();
    private final Coach mind = new Coach();
    private final Coach imaged = new Coach();
    private boolean hasImage = false;
    private final Shelf[] shelves = new Shelf[SHELVES];
    private final int[] sitting = new int[MOST_ORDERED];
    private final int[] bestSitting = new int[MOST_ORDERED];
    private final long[] ways = new long[MOST_TIPS + 1];

    public TippedIntoTheNextLap() {
        for (int i = 0; i < shelves.length; i++) {
            shelves[i] = new Shelf();
        }
    }

    // ---- the coach as told.

    public int coach(int d) {
        Shelf text = shelfAt(d);
        if (text == null) {
            return NO_SUCH;
        }
        if (text.holds == Shelf.NOTHING) {
            return NOTHING_HELD;
        }
        if (text.holds != Shelf.NUMBERS || text.sort != BYTES) {
            return OTHER_KIND;
        }
        int wrong = firstWrongByte(text);
        if (wrong >= 0) {
            return -1000 - wrong;
        }
        mind.copyFrom(now);
        int answer = doStatements(mind, text);
        if (answer >= 0) {
            now.copyFrom(mind);
        }
        return answer;
    }

    public int seat(int row, int what) {
        if (!now.isRow(row)) {
            return NO_SUCH;
        }
        switch (what) {
            case 0: return now.kinds[row];
            case 1: return now.figures[row];
            case 2: return now.tipped[row];
            case 3: return now.isBlocked(row) ? 1 : 0;
            case 4: return now.canAt(row);
            case 5: return kneesOf(now.kinds[row], now.figures[row]);
            case 6: return now.worthAt(row);
            case 7: return now.roomAt(row);
            default: return NO_SUCH;
        }
    }

    public int comes(int d) {
        Shelf shelf = shelfAt(d);
        if (shelf == null) {
            return NO_SUCH;
        }
        int refusal = shelf.refusalUnless(Shelf.PERSON);
        if (refusal != 0) {
            return refusal;
        }
        return now.sitDown(shelf.kind, shelf.figure) ? now.people - 1 : NO_ROOM;
    }

    public int tips(int row, int v) {
        if (!now.isRow(row) || v < 0 || v > MOST_TIP) {
            return NO_SUCH;
        }
        int was = now.tipped[row];
        return now.setTip(row, v) ? was : NOT_SO;
    }

    public int blocks(int row) {
        if (!now.blockOrFree(row)) {
            return NO_SUCH;
        }
        return now.isBlocked(row) ? 1 : 0;
    }

    public int hour(int v) {
        int was = now.clock;
        return now.setClock(v) ? was : NO_SUCH;
    }

    public int change(int a, int b) {
        return now.changePlaces(a, b) ? 1 : NO_SUCH;
    }

    public int rounds(int n) {
        if (n < 1 || n > MOST_ROUNDS) {
            return NO_SUCH;
        }
        return now.travel(n) ? now.allTips() : NOT_SO;
    }

    // ---- rounds on.

    public int behind(int row, int n, int what) {
        if (!now.isRow(row) || !isMindRounds(n) || what < 0 || what > 1) {
            return NO_SUCH;
        }
        thinkOn(n);
        return what == 0 ? mind.tipped[row] : mind.roomAt(row);
    }

    public int still() {
        mind.copyFrom(now);
        int stirring = mind.goOn(MOST_ROUNDS + 1);
        return stirring <= MOST_ROUNDS ? stirring : NONE;
    }

    public int run(int row, int n) {
        if (!now.isRow(row) || !isMindRounds(n)) {
            return NO_SUCH;
        }
        thinkOn(n);
        return mind.tippingFrom(row);
    }

    public int longest(int n, int what) {
        if (!isMindRounds(n) || what < 0 || what > 1) {
            return NO_SUCH;
        }
        thinkOn(n);
        int most = 0;
        int begins = NONE;
        for (int i = 0; i < mind.people; i++) {
            int length = mind.tippingFrom(i);
            if (length > most) {
                most = length;
                begins = i;
            }
        }
        return what == 0 ? begins : most;
    }

    public int began(int n) {
        if (!isMindRounds(n)) {
            return NO_SUCH;
        }
        thinkOn(n);
        int least = mind.allTips();
        int found = NONE;
        for (int i = 0; i < now.people; i++) {
            thinkOnBlocked(1 << i, n);
            int all = mind.allTips();
            if (all < least) {
                least = all;
                found = i;
            }
        }
        return found;
    }

    public int lost(int n) {
        if (!isMindRounds(n)) {
            return REFUSED - NO_SUCH;
        }
        thinkOn(n);
        return mind.allJoy();
    }

    // ---- the best, laws, prices.

    public int best(int row) {
        if (row < -1 || row >= now.people) {
            return REFUSED - NO_SUCH;
        }
        mind.copyFrom(now);
        for (int i = 0; i < mind.people; i++) {
            mind.tipped[i] = bestTip(i);
        }
        return row < 0 ? mind.allJoy() : mind.tipped[row];
    }

    public int laws(int law) {
        if (law < -1 || law >= LAWS) {
            return REFUSED - NO_SUCH;
        }
        return law < 0 ? lawWithMostJoy() : joyByLaw(law);
    }

    public int pays(int row) {
        if (!hasOneBehind(row)) {
            return REFUSED - NO_SUCH;
        }
        return wonBehind(row) - lostAhead(row);
    }

    public int price(int row) {
        if (!hasOneBehind(row)) {
            return REFUSED - NO_SUCH;
        }
        return (wonBehind(row) + lostAhead(row)) / 2;
    }

    // ---- orders, stops.

    public int order(int n, int row) {
        if (n < 0 || n > MOST_ORDER_ROUNDS || row < -1 || row >= now.people) {
            return REFUSED - NO_SUCH;
        }
        if (now.people > MOST_ORDERED) {
            return REFUSED - NOT_SO;
        }
        int joy = findBestSitting(n);
        return row < 0 ? joy : bestSitting[row];
    }

    public int swap(int n) {
        if (!isMindRounds(n)) {
            return NO_SUCH;
        }
        int most = joyFromUpright(n);
        int found = NONE;
        for (int a = 0; a < now.people; a++) {
            for (int b = a + 1; b < now.people; b++) {
                int joy = joyOfChange(a, b, n);
                if (joy > most) {
                    most = joy;
                    found = 10 * a + b;
                }
            }
        }
        return found;
    }

    public int stops(int n) {
        if (n < 1 || n > MOST_ROUNDS) {
            return NO_SUCH;
        }
        int all = (1 << now.people) - 1;
        int found = all;
        int fewest = now.people;
        for (int rows = 0; rows < all; rows++) {
            int many = Integer.bitCount(rows);
            if (many < fewest && nobodyTips(rows, n)) {
                fewest = many;
                found = rows;
            }
        }
        return found;
    }

    public int ask(int n) {
        if (!isMindRounds(n)) {
            return NO_SUCH;
        }
        int found = NONE;
        int most = 0;
        for (int i = 0; i < now.people; i++) {
            thinkOnBlocked(1 << i, n);
            int joy = mind.allJoy();
            if (found == NONE || joy > most) {
                most = joy;
                found = i;
            }
        }
        return found;
    }

    public int bestHour(int n) {
        if (!isMindRounds(n)) {
            return NO_SUCH;
        }
        int found = 0;
        int most = joyAtHour(0, n);
        for (int h = 1; h < HOURS; h++) {
            int joy = joyAtHour(h, n);
            if (joy > most) {
                most = joy;
                found = h;
            }
        }
        return found;
    }

    public int two(int row) {
        if (!hasOneBehind(row)) {
            return NO_SUCH;
        }
        mind.copyFrom(now);
        for (int first = 0; first < 2; first++) {
            for (int other = 0; other < 2; other++) {
                if (neitherWouldRather(row, first, other)) {
                    return 10 * first + other;
                }
            }
        }
        return NONE;
    }

    public long looksRound(int t, int v, int part) {
        if (t < 2 || t > 20 || v < 0 || v > MOST_TIPS || part < 0 || part > 1) {
            return REFUSED - NO_SUCH;
        }
        thinkOn(1);
        Arrays.fill(ways, 0L);
        ways[0] = 1L;
        long all = 1L;
        for (int i = 0; i < mind.people; i++) {
            if (mind.childBehind(i)) {
                all *= t;
                addTip(mind.tipped[i], 1, t - 1);
            } else {
                addTip(mind.tipped[i], 0, 1);
            }
        }
        long likely = 0L;
        for (int sum = 0; sum <= v; sum++) {
            likely += ways[sum];
        }
        return partOf(likely, all, part);
    }

    // ---- what he is, rooms.

    public int whatIs(int d, int row, int what) {
        Shelf told = shelfAt(d);
        if (told == null || !now.isRow(row) || what < 0 || what > 1) {
            return NO_SUCH;
        }
        int refusal = told.refusalUnless(Shelf.NUMBERS);
        if (refusal != 0) {
            return refusal;
        }
        return what == 0 ? kindsAsTold(told, row) : figuresAsTold(told, row);
    }

    public long mean(int part) {
        if (part < 0 || part > 1) {
            return REFUSED - NO_SUCH;
        }
        return now.people == 0 ? partOf(0, 1, part) : partOf(now.allRoom(), now.people, part);
    }

    public int tightest(int what) {
        if (what < 0 || what > 1) {
            return NO_SUCH;
        }
        int found = NONE;
        int least = NONE;
        for (int i = 0; i < now.people; i++) {
            int room = now.roomAt(i);
            if (found == NONE || room < least) {
                least = room;
                found = i;
            }
        }
        return what == 0 ? found : least;
    }

    // ---- told tips, trips by seeds.

    public int forged(int d) {
        Shelf told = shelfAt(d);
        if (told == null) {
            return NO_SUCH;
        }
        int refusal = told.refusalUnless(Shelf.NUMBERS);
        if (refusal != 0) {
            return refusal;
        }
        for (int i = 0; i < told.size; i++) {
            int tip = told.numbers[i];
            if (!now.isRow(i) || tip < 0 || tip > now.canAt(i)) {
                return i;
            }
        }
        return NONE;
    }

    public int judge(int d) {
        Shelf told = shelfAt(d);
        if (told == null) {
            return NO_SUCH;
        }
        int refusal = told.refusalUnless(Shelf.NUMBERS);
        if (refusal != 0) {
            return refusal;
        }
        mind.copyFrom(now);
        for (int i = 0; i < told.size; i++) {
            if (i > 0) {
                mind.goOn(1);
            }
            if (!told.isSkipped(i) && told.numbers[i] != mind.allTips()) {
                return i;
            }
        }
        return NONE;
    }

    public int trips(int n, int z, int what) {
        if (n < 1 || n > 20 || what < 0 || what > 1) {
            return NO_SUCH;
        }
        if (now.people == 0) {
            return NOT_SO;
        }
        mind.copyFrom(now);
        int seed = z;
        int sum = 0;
        for (int i = 0; i < n; i++) {
            seed = drawTrip(seed);
            mind.goOn(5);
            sum += what == 0 ? mind.allTips() : Integer.bitCount(mind.tippingRows());
        }
        return sum;
    }

    // ---- the image, what is told.

    public int image() {
        imaged.copyFrom(now);
        hasImage = true;
        return now.travelled;
    }

    public int restore() {
        if (!hasImage) {
            return NOT_SO;
        }
        now.copyFrom(imaged);
        return now.travelled;
    }

    public int count(int what) {
        switch (what) {
            case 0: return now.people;
            case 1: return now.clock;
            case 2: return now.travelled;
            case 3: return now.allTips();
            case 4: return now.blocked;
            case 5: return now.allRoom();
            case 6: return now.tippingRows();
            default: return NO_SUCH;
        }
    }

    // ---- shelves.

    public int keep(int d, int what, int k, int figure) {
        Shelf shelf = shelfAt(d);
        if (shelf == null || what < 0 || what > 1) {
            return NO_SUCH;
        }
        if (what == 0) {
            shelf.holds = Shelf.NOTHING;
            return 0;
        }
        if (k < 0 || k >= KINDS || figure < 0 || figure >= FIGURES) {
            return NO_SUCH;
        }
        shelf.holds = Shelf.PERSON;
        shelf.kind = k;
        shelf.figure = figure;
        return 0;
    }

    public int row(int d, int sort, int n) {
        Shelf shelf = shelfAt(d);
        if (shelf == null || sort < BYTES || sort > INTS || n > ROW_ROOM) {
            return NO_SUCH;
        }
        if (n < 0) {
            return SIZE_BELOW_0;
        }
        shelf.holds = Shelf.NUMBERS;
        shelf.sort = sort;
        shelf.size = n;
        Arrays.fill(shelf.numbers, 0);
        return 0;
    }

    public int put(int d, int i, int v) {
        Shelf shelf = shelfAt(d);
        if (shelf == null) {
            return NO_SUCH;
        }
        int refusal = shelf.refusalUnless(Shelf.NUMBERS);
        if (refusal != 0) {
            return refusal;
        }
        if (!shelf.isPlace(i)) {
            return NO_PLACE;
        }
        shelf.numbers[i] = lowestBits(shelf.sort, v);
        return 0;
    }

    public long element(int d, int i) throws IllegalArgumentException, IllegalStateException {
        Shelf shelf = shelfAt(d);
        if (shelf == null) {
            throw new IllegalArgumentException("no such shelf");
        }
        if (shelf.holds != Shelf.NUMBERS) {
            throw new IllegalStateException("no row of numbers there");
        }
        if (!shelf.isPlace(i)) {
            throw new IllegalStateException("no such place");
        }
        return shelf.numbers[i];
    }

    public int copy(int d, int i, int e, int j, int n) {
        Shelf from = shelfAt(d);
        Shelf to = shelfAt(e);
        if (from == null || to == null) {
            return NO_SUCH;
        }
        if (from.holds == Shelf.NOTHING || to.holds == Shelf.NOTHING) {
            return NOTHING_HELD;
        }
        if (from.holds != Shelf.NUMBERS || to.holds != Shelf.NUMBERS || from.sort != to.sort) {
            return OTHER_KIND;
        }
        if (!from.hasPart(i, n) || !to.hasPart(j, n)) {
            return NO_PLACE;
        }
        System.arraycopy(from.numbers, i, to.numbers, j, n);
        return n;
    }

    public int cost(int d) {
        Shelf shelf = shelfAt(d);
        if (shelf == null) {
            return NO_SUCH;
        }
        int refusal = shelf.refusalUnless(Shelf.PERSON);
        return refusal != 0 ? refusal : costOf(shelf.kind, shelf.figure);
    }

    public int toss(int d) {
        Shelf shelf = shelfAt(d);
        if (shelf == null) {
            return NO_SUCH;
        }
        int refusal = shelf.refusalUnless(Shelf.PERSON);
        if (refusal != 0) {
            return refusal;
        }
        try {
            throwFailure(shelf.kind, shelf.figure);
        } catch (UnsupportedOperationException ofStopper) {
            return 200 + costOf(shelf.kind, shelf.figure);
        } catch (IllegalStateException ofTall) {
            return 100 + shelf.figure;
        } catch (IllegalArgumentException ofOthers) {
            return shelf.figure;
        }
        return NO_FAILURE;
    }

    // ---- what the calls above are made of.

    private Shelf shelfAt(int d) {
        return d >= 0 && d < shelves.length ? shelves[d] : null;
    }

    private static boolean isMindRounds(int n) {
        return n >= 0 && n <= MOST_ROUNDS;
    }

    private boolean hasOneBehind(int row) {
        return now.isRow(row) && now.isRow(row + 1);
    }

    private void thinkOn(int n) {
        mind.copyFrom(now);
        mind.goOn(n);
    }

    private void thinkOnBlocked(int rows, int n) {
        mind.copyFrom(now);
        mind.block(rows);
        mind.goOn(n);
    }

    /** The place of the first byte by which the text is none; -1 if there is none such. */
    private static int firstWrongByte(Shelf text) {
        if (text.size == 0) {
            return 0;
        }
        int at = 0;
        while (at < text.size) {
            int digits = digitsBehind(text.byteAt(at));
            if (digits < 0) {
                return at;
            }
            int end = at + 1 + digits;
            for (at++; at < end; at++) {
                if (text.byteAt(at) < '0' || text.byteAt(at) > '9') {
                    return at;
                }
            }
            if (text.byteAt(at) != ';') {
                return at;
            }
            at++;
        }
        return -1;
    }

    private static int digitsBehind(int letter) {
        switch (letter) {
            case 'b': return 1;
            case 'p':
            case 'h':
            case 'r':
            case 'x': return 2;
            case 't': return 3;
            default: return -1;
        }
    }

    /** How many statements were done, or the fault of the first that can't be. */
    private static int doStatements(Coach on, Shelf text) {
        int done = 0;
        int letter = 0;
        for (int at = 0; at < text.size; at++) {
            if (text.byteAt(at) == ';') {
                if (!doStatement(on, text, letter)) {
                    return -2000 - letter;
                }
                letter = at + 1;
                done++;
            }
        }
        return done;
    }

    private static boolean doStatement(Coach on, Shelf text, int at) {
        int first = text.digitAt(at + 1);
        int second = text.digitAt(at + 2);
        switch (text.byteAt(at)) {
            case 'p': return on.sitDown(first, second);
            case 't': return on.setTip(first, 10 * second + text.digitAt(at + 3));
            case 'b': return on.blockOrFree(first);
            case 'h': return on.setClock(10 * first + second);
            case 'r': return on.travel(10 * first + second);
            case 'x': return on.changePlaces(first, second);
            default: return false;
        }
    }

    /** A tip gives its worth to one and takes that of the one behind: so each row is best by itself. */
    private int bestTip(int row) {
        boolean gains = now.isRow(row + 1) && now.worthAt(row) > now.worthAt(row + 1);
        return gains ? now.canAt(row) : 0;
    }

    private int joyByLaw(int law) {
        mind.copyFrom(now);
        if (law == 0) {
            mind.goOn(MOST_ROUNDS);
        } else {
            for (int i = 0; i < mind.people; i++) {
                mind.tipped[i] = law == 1 ? 0 : mind.canAt(i);
            }
        }
        return mind.allJoy();
    }

    private int lawWithMostJoy() {
        int found = 0;
        int most = joyByLaw(0);
        for (int law = 1; law < LAWS; law++) {
            int joy = joyByLaw(law);
            if (joy > most) {
                most = joy;
                found = law;
            }
        }
        return found;
    }

    /** What the one behind a row has more, if the row tips 0. */
    private int wonBehind(int row) {
        return now.tipped[row] * now.worthAt(row + 1);
    }

    private int lostAhead(int row) {
        return now.tipped[row] * now.worthAt(row);
    }

    private int findBestSitting(int n) {
        for (int i = 0; i < sitting.length; i++) {
            sitting[i] = i;
        }
        int most = 0;
        boolean more = true;
        for (int i = 0; i < ORDERS && more; i++) {
            int joy = joyBySitting(n);
            if (i == 0 || joy > most) {
                most = joy;
                System.arraycopy(sitting, 0, bestSitting, 0, sitting.length);
            }
            more = nextSitting(now.people);
        }
        return most;
    }

    private int joyBySitting(int n) {
        mind.copyFrom(now);
        mind.sitUp();
        for (int i = 0; i < mind.people; i++) {
            mind.kinds[i] = now.kinds[sitting[i]];
            mind.figures[i] = now.figures[sitting[i]];
        }
        mind.goOn(n);
        return mind.allJoy();
    }

    /** The next order by numbers of the first ones sitting; false behind the last. */
    private boolean nextSitting(int people) {
        int turn = people - 2;
        while (turn >= 0 && sitting[turn] > sitting[turn + 1]) {
            turn--;
        }
        if (turn < 0) {
            return false;
        }
        int higher = people - 1;
        while (higher > turn && sitting[higher] < sitting[turn]) {
            higher--;
        }
        exchangeSitting(turn, higher);
        for (int a = turn + 1, b = people - 1; a < b; a++, b--) {
            exchangeSitting(a, b);
        }
        return true;
    }

    private void exchangeSitting(int a, int b) {
        int who = sitting[a];
        sitting[a] = sitting[b];
        sitting[b] = who;
    }

    private int joyFromUpright(int n) {
        mind.copyFrom(now);
        mind.sitUp();
        mind.goOn(n);
        return mind.allJoy();
    }

    private int joyOfChange(int a, int b, int n) {
        mind.copyFrom(now);
        mind.changePlaces(a, b);
        mind.goOn(n);
        return mind.allJoy();
    }

    private boolean nobodyTips(int rows, int n) {
        thinkOnBlocked(rows, n);
        return mind.allTips() == 0;
    }

    private int joyAtHour(int h, int n) {
        mind.copyFrom(now);
        mind.clock = h;
        mind.goOn(n);
        return mind.allJoy();
    }

    private boolean neitherWouldRather(int row, int first, int other) {
        return joyOfChoice(row, first, other, row) >= joyOfChoice(row, 1 - first, other, row)
            && joyOfChoice(row, first, other, row + 1) >= joyOfChoice(row, first, 1 - other, row + 1);
    }

    private int joyOfChoice(int row, int first, int other, int whose) {
        mind.tipped[row] = first * mind.canAt(row);
        mind.tipped[row + 1] = other * mind.canAt(row + 1);
        return mind.joyAt(whose);
    }

    /** Spreads the ways to each sum over those that one more makes: so often he tips 0, so often the tip. */
    private void addTip(int tip, int upright, int tipping) {
        for (int sum = MOST_TIPS - tip; sum >= 0; sum--) {
            long before = ways[sum];
            ways[sum] = before * upright;
            ways[sum + tip] += before * tipping;
        }
    }

    private static long partOf(long above, long below, int part) {
        long common = commonDivisor(above, below);
        if (common == 0L) {
            return part;
        }
        return part == 0 ? above / common : below / common;
    }

    private static long commonDivisor(long a, long b) {
        long high = a;
        long low = b;
        // Euclid's way is through behind fewer than 100 steps for any longs.
        for (int i = 0; i < 100 && low != 0L; i++) {
            long rest = high % low;
            high = low;
            low = rest;
        }
        return high;
    }

    /** What he is by one is looked for with the other as it is. */
    private int kindsAsTold(Shelf told, int row) {
        int kinds = 0;
        for (int kind = 0; kind < KINDS; kind++) {
            if (wouldTipAsTold(told, row, kind, now.figures[row])) {
                kinds |= 1 << kind;
            }
        }
        return kinds;
    }

    private int figuresAsTold(Shelf told, int row) {
        int figures = 0;
        for (int figure = 0; figure < FIGURES; figure++) {
            if (wouldTipAsTold(told, row, now.kinds[row], figure)) {
                figures |= 1 << figure;
            }
        }
        return figures;
    }

    private boolean wouldTipAsTold(Shelf told, int row, int kind, int figure) {
        mind.copyFrom(now);
        mind.kinds[row] = kind;
        mind.figures[row] = figure;
        boolean stirs = true;
        for (int i = 0; i < told.size; i++) {
            if (i > 0 && stirs) {
                stirs = mind.goOn(1) > 0;
            }
            if (!told.isSkipped(i) && told.numbers[i] != mind.tipped[row]) {
                return false;
            }
        }
        return true;
    }

    /** Draws hour and blocks of one trip in mind; the seed behind it. */
    private int drawTrip(int z) {
        mind.sitUp();
        int seed = nextSeed(z);
        mind.clock = drawn(seed) % HOURS;
        mind.blocked = 0;
        for (int i = 0; i < mind.people; i++) {
            seed = nextSeed(seed);
            if (drawn(seed) % 5 == 0) {
                mind.block(1 << i);
            }
        }
        return seed;
    }

    private static int nextSeed(int z) {
        return z * 1103515245 + 12345;
    }

    private static int drawn(int z) {
        return (z & 0x7fffffff) / 65536;
    }

    private static int lowestBits(int sort, int v) {
        switch (sort) {
            case BYTES: return (byte) v;
            case SHORTS: return (short) v;
            default: return v;
        }
    }

    private static int leastOf(int sort) {
        switch (sort) {
            case BYTES: return -128;
            case SHORTS: return -32768;
            default: return -2147483648;
        }
    }

    private static int kneesOf(int kind, int figure) {
        switch (kind) {
            case TALL: return 6 + figure / 3;
            case STOPPER: return 7 + figure / 3;
            case CHILD: return 1;
            case BABY: return 0;
            default: return 2;
        }
    }

    private static int wantOf(int kind, int figure, int ahead, boolean night) {
        switch (kind) {
            case SLEEPER: return night ? MOST_TIP : ahead;
            case TALL: return ahead + 2;
            case CHILD: return figure;
            case SHY: return ahead / 2;
            case POLITE: return Math.max(ahead / 2 - 1, 0);
            case BABY:
            case STOPPER: return 0;
            default: return ahead;
        }
    }

    private static int worthOf(int kind, int figure, boolean night) {
        switch (kind) {
            case SLEEPER: return night ? 3 : 1;
            case TALL: return figure / 2 + 1;
            case STOPPER: return figure / 2;
            case CHILD:
            case BABY: return 0;
            default: return 1;
        }
    }

    private static int costOf(int kind, int figure) {
        switch (kind) {
            case SLEEPER: return 3 + figure;
            case TALL: return 3 + 2;
            case CHILD: return 1;
            case SHY: return 3 / 2;
            case POLITE: return 3 / 2 + 6;
            case BABY: return 1 + figure;
            case STOPPER: return 2 * (3 + 2);
            default: return 3;
        }
    }

    /** Throws the failure of one of a kind; goes on if he has none. */
    private static void throwFailure(int kind, int figure) {
        if (figure == 0) {
            return;
        }
        switch (kind) {
            case CHILD:
            case BABY: return;
            case STOPPER: throw new UnsupportedOperationException("a stopper's failure");
            case TALL: throw new IllegalStateException("a tall one's failure");
            default: throw new IllegalArgumentException("a failure");
        }
    }

    /** All that there is but shelves; the coach as it is, as it is thought of, as it was. */
    private static final class Coach {
        int people = 0;
        int clock = 22;
        int travelled = 0;
        /** Bits of the rows that a thing blocks. */
        int blocked = 0;
        final int[] kinds = new int[ROWS];
        final int[] figures = new int[ROWS];
        final int[] tipped = new int[ROWS];
        /** What each one can tip while rounds go: neither people nor blocks change then. */
        private final int[] limits = new int[ROWS];

        void copyFrom(Coach other) {
            people = other.people;
            clock = other.clock;
            travelled = other.travelled;
            blocked = other.blocked;
            System.arraycopy(other.kinds, 0, kinds, 0, ROWS);
            System.arraycopy(other.figures, 0, figures, 0, ROWS);
            System.arraycopy(other.tipped, 0, tipped, 0, ROWS);
        }

        boolean isRow(int row) {
            return row >= 0 && row < people;
        }

        private boolean isNight() {
            return clock >= 22 || clock <= 5;
        }

        boolean isBlocked(int row) {
            return (blocked >> row & 1) != 0;
        }

        int canAt(int row) {
            if (!isRow(row) || !isRow(row + 1) || isBlocked(row)) {
                return 0;
            }
            return Math.max(MOST_TIP - kneesOf(kinds[row + 1], figures[row + 1]), 0);
        }

        int worthAt(int row) {
            return worthOf(kinds[row], figures[row], isNight());
        }

        int roomAt(int row) {
            return UPRIGHT_ROOM + tipped[row] - tipAhead(row);
        }

        int joyAt(int row) {
            return worthAt(row) * (roomAt(row) - UPRIGHT_ROOM);
        }

        private int tipAhead(int row) {
            return row > 0 ? tipped[row - 1] : 0;
        }

        boolean childBehind(int row) {
            return isRow(row + 1) && (kinds[row + 1] == CHILD || kinds[row + 1] == BABY);
        }

        int allTips() {
            int sum = 0;
            for (int i = 0; i < people; i++) {
                sum += tipped[i];
            }
            return sum;
        }

        int allRoom() {
            int sum = 0;
            for (int i = 0; i < people; i++) {
                sum += roomAt(i);
            }
            return sum;
        }

        int allJoy() {
            int sum = 0;
            for (int i = 0; i < people; i++) {
                sum += joyAt(i);
            }
            return sum;
        }

        int tippingRows() {
            int rows = 0;
            for (int i = 0; i < people; i++) {
                if (tipped[i] > 0) {
                    rows |= 1 << i;
                }
            }
            return rows;
        }

        int tippingFrom(int row) {
            int end = row;
            while (end < people && tipped[end] > 0) {
                end++;
            }
            return end - row;
        }

        boolean sitDown(int kind, int figure) {
            if (people >= ROWS || kind < 0 || kind >= KINDS || figure < 0 || figure >= FIGURES) {
                return false;
            }
            kinds[people] = kind;
            figures[people] = figure;
            tipped[people] = 0;
            people++;
            return true;
        }

        boolean setTip(int row, int v) {
            if (!isRow(row) || v < 0 || v > canAt(row)) {
                return false;
            }
            tipped[row] = v;
            return true;
        }

        boolean blockOrFree(int row) {
            if (!isRow(row)) {
                return false;
            }
            if (isBlocked(row)) {
                blocked &= ~(1 << row);
            } else {
                block(1 << row);
            }
            return true;
        }

        void block(int rows) {
            blocked |= rows;
            for (int i = 0; i < people; i++) {
                if (isBlocked(i)) {
                    tipped[i] = 0;
                }
            }
        }

        boolean setClock(int v) {
            if (v < 0 || v >= HOURS) {
                return false;
            }
            clock = v;
            return true;
        }

        /** Blocks are of rows, not of who sits there: they stay. */
        boolean changePlaces(int a, int b) {
            if (!isRow(a) || !isRow(b) || a == b) {
                return false;
            }
            int kind = kinds[a];
            int figure = figures[a];
            kinds[a] = kinds[b];
            figures[a] = figures[b];
            kinds[b] = kind;
            figures[b] = figure;
            sitUp();
            return true;
        }

        void sitUp() {
            Arrays.fill(tipped, 0);
        }

        boolean travel(int n) {
            if (n < 1 || n > MOST_ROUNDS || travelled + n > MOST_TRIP) {
                return false;
            }
            travelled += n;
            goOn(n);
            return true;
        }

        /** Goes on by n rounds; how many of them changed something (behind one that does not, none does). */
        int goOn(int n) {
            for (int i = 0; i < people; i++) {
                limits[i] = canAt(i);
            }
            boolean night = isNight();
            for (int done = 0; done < n; done++) {
                if (!roundStirs(night)) {
                    return done;
                }
            }
            return n;
        }

        /** One round, from the last row on: so each still sees how the one ahead began it. */
        private boolean roundStirs(boolean night) {
            boolean stirs = false;
            for (int i = people - 1; i >= 0; i--) {
                int tip = Math.min(wantOf(kinds[i], figures[i], tipAhead(i), night), limits[i]);
                if (tip != tipped[i]) {
                    tipped[i] = tip;
                    stirs = true;
                }
            }
            return stirs;
        }
    }

    /** A shelf: nothing, one of a kind, or a row of numbers; what it does not hold is left as it was. */
    private static final class Shelf {
        static final int NOTHING = 0;
        static final int PERSON = 1;
        static final int NUMBERS = 2;

        int holds = NOTHING;
        int kind = SITTER;
        int figure = 0;
        int sort = BYTES;
        int size = 0;
        final int[] numbers = new int[ROW_ROOM];

        int refusalUnless(int wanted) {
            if (holds == NOTHING) {
                return NOTHING_HELD;
            }
            return holds == wanted ? 0 : OTHER_KIND;
        }

        boolean isPlace(int i) {
            return i >= 0 && i < size;
        }

        boolean hasPart(int from, int n) {
            return from >= 0 && from <= size && n >= 0 && n <= size - from;
        }

        boolean isSkipped(int i) {
            return isPlace(i) && numbers[i] == leastOf(sort);
        }

        /** -1, which is in no text, past the end. */
        int byteAt(int i) {
            return isPlace(i) ? numbers[i] : -1;
        }

        int digitAt(int i) {
            return byteAt(i) - '0';
        }
    }
}
